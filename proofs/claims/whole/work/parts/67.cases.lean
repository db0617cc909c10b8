/-! the law: its cases, laid by gen/law.py -/
theorem lz_1 : (Jvm.Cond.initialized "PaidRests") ∈ jm_big := jm_tb 1 (by decide +kernel) (by decide +kernel)
theorem lz_10 : (Jvm.Cond.initialized "PaidRestsModel") ∈ jm_big := jm_tb 10 (by decide +kernel) (by decide +kernel)
theorem lz_309 : (Jvm.Cond.methodLink "PaidRestsLaw" (13 : Nat) ({ cls := "PaidRests", name := "type", desc := "(I)I" } : Jvm.MethodName)) ∈ jm_big := jm_tb 309 (by decide +kernel) (by decide +kernel)
theorem lz_310 : (Jvm.Cond.instanceMethod ({ cls := "PaidRests", name := "type", desc := "(I)I" } : Jvm.MethodName)) ∈ jm_big := jm_tb 310 (by decide +kernel) (by decide +kernel)
theorem lz_311 : (Jvm.Cond.selects "PaidRests" ({ cls := "PaidRests", name := "type", desc := "(I)I" } : Jvm.MethodName) ({ cls := "PaidRests", name := "type", desc := "(I)I" } : Jvm.MethodName)) ∈ jm_big := jm_tb 311 (by decide +kernel) (by decide +kernel)
theorem lz_312 : (Jvm.Cond.code ({ cls := "PaidRests", name := "type", desc := "(I)I" } : Jvm.MethodName) prog_1_method_2_code (2 : Nat) (Option.some Jvm.ClassFile.FieldType.int)) ∈ jm_big := jm_tb 312 (by decide +kernel) (by decide +kernel)
theorem lz_322 : (Jvm.Cond.methodLink "PaidRestsLaw" (18 : Nat) ({ cls := "PaidRests", name := "clear", desc := "()I" } : Jvm.MethodName)) ∈ jm_big := jm_tb 322 (by decide +kernel) (by decide +kernel)
theorem lz_323 : (Jvm.Cond.instanceMethod ({ cls := "PaidRests", name := "clear", desc := "()I" } : Jvm.MethodName)) ∈ jm_big := jm_tb 323 (by decide +kernel) (by decide +kernel)
theorem lz_324 : (Jvm.Cond.selects "PaidRests" ({ cls := "PaidRests", name := "clear", desc := "()I" } : Jvm.MethodName) ({ cls := "PaidRests", name := "clear", desc := "()I" } : Jvm.MethodName)) ∈ jm_big := jm_tb 324 (by decide +kernel) (by decide +kernel)
theorem lz_325 : (Jvm.Cond.code ({ cls := "PaidRests", name := "clear", desc := "()I" } : Jvm.MethodName) prog_1_method_3_code (1 : Nat) (Option.some Jvm.ClassFile.FieldType.int)) ∈ jm_big := jm_tb 325 (by decide +kernel) (by decide +kernel)
theorem lz_330 : (Jvm.Cond.methodLink "PaidRestsLaw" (23 : Nat) ({ cls := "PaidRests", name := "score", desc := "()I" } : Jvm.MethodName)) ∈ jm_big := jm_tb 330 (by decide +kernel) (by decide +kernel)
theorem lz_331 : (Jvm.Cond.instanceMethod ({ cls := "PaidRests", name := "score", desc := "()I" } : Jvm.MethodName)) ∈ jm_big := jm_tb 331 (by decide +kernel) (by decide +kernel)
theorem lz_332 : (Jvm.Cond.selects "PaidRests" ({ cls := "PaidRests", name := "score", desc := "()I" } : Jvm.MethodName) ({ cls := "PaidRests", name := "score", desc := "()I" } : Jvm.MethodName)) ∈ jm_big := jm_tb 332 (by decide +kernel) (by decide +kernel)
theorem lz_333 : (Jvm.Cond.code ({ cls := "PaidRests", name := "score", desc := "()I" } : Jvm.MethodName) prog_1_method_4_code (2 : Nat) (Option.some Jvm.ClassFile.FieldType.int)) ∈ jm_big := jm_tb 333 (by decide +kernel) (by decide +kernel)
theorem lz_406 : (Jvm.Cond.methodLink "PaidRestsLaw" (27 : Nat) ({ cls := "PaidRests", name := "part", desc := "(II)I" } : Jvm.MethodName)) ∈ jm_big := jm_tb 406 (by decide +kernel) (by decide +kernel)
theorem lz_407 : (Jvm.Cond.instanceMethod ({ cls := "PaidRests", name := "part", desc := "(II)I" } : Jvm.MethodName)) ∈ jm_big := jm_tb 407 (by decide +kernel) (by decide +kernel)
theorem lz_408 : (Jvm.Cond.selects "PaidRests" ({ cls := "PaidRests", name := "part", desc := "(II)I" } : Jvm.MethodName) ({ cls := "PaidRests", name := "part", desc := "(II)I" } : Jvm.MethodName)) ∈ jm_big := jm_tb 408 (by decide +kernel) (by decide +kernel)
theorem lz_409 : (Jvm.Cond.code ({ cls := "PaidRests", name := "part", desc := "(II)I" } : Jvm.MethodName) prog_1_method_5_code (3 : Nat) (Option.some Jvm.ClassFile.FieldType.int)) ∈ jm_big := jm_tb 409 (by decide +kernel) (by decide +kernel)
theorem lz_418 : (Jvm.Cond.methodLink "PaidRestsLaw" (32 : Nat) ({ cls := "PaidRests", name := "player", desc := "(II)I" } : Jvm.MethodName)) ∈ jm_big := jm_tb 418 (by decide +kernel) (by decide +kernel)
theorem lz_419 : (Jvm.Cond.instanceMethod ({ cls := "PaidRests", name := "player", desc := "(II)I" } : Jvm.MethodName)) ∈ jm_big := jm_tb 419 (by decide +kernel) (by decide +kernel)
theorem lz_420 : (Jvm.Cond.selects "PaidRests" ({ cls := "PaidRests", name := "player", desc := "(II)I" } : Jvm.MethodName) ({ cls := "PaidRests", name := "player", desc := "(II)I" } : Jvm.MethodName)) ∈ jm_big := jm_tb 420 (by decide +kernel) (by decide +kernel)
theorem lz_421 : (Jvm.Cond.code ({ cls := "PaidRests", name := "player", desc := "(II)I" } : Jvm.MethodName) prog_1_method_6_code (3 : Nat) (Option.some Jvm.ClassFile.FieldType.int)) ∈ jm_big := jm_tb 421 (by decide +kernel) (by decide +kernel)
theorem lz_481 : (Jvm.Cond.methodLink "PaidRestsLaw" (36 : Nat) ({ cls := "PaidRests", name := "coins", desc := "(II)I" } : Jvm.MethodName)) ∈ jm_big := jm_tb 481 (by decide +kernel) (by decide +kernel)
theorem lz_482 : (Jvm.Cond.instanceMethod ({ cls := "PaidRests", name := "coins", desc := "(II)I" } : Jvm.MethodName)) ∈ jm_big := jm_tb 482 (by decide +kernel) (by decide +kernel)
theorem lz_483 : (Jvm.Cond.selects "PaidRests" ({ cls := "PaidRests", name := "coins", desc := "(II)I" } : Jvm.MethodName) ({ cls := "PaidRests", name := "coins", desc := "(II)I" } : Jvm.MethodName)) ∈ jm_big := jm_tb 483 (by decide +kernel) (by decide +kernel)
theorem lz_484 : (Jvm.Cond.code ({ cls := "PaidRests", name := "coins", desc := "(II)I" } : Jvm.MethodName) prog_1_method_7_code (3 : Nat) (Option.some Jvm.ClassFile.FieldType.int)) ∈ jm_big := jm_tb 484 (by decide +kernel) (by decide +kernel)
theorem lz_491 : (Jvm.Cond.methodLink "PaidRestsLaw" (40 : Nat) ({ cls := "PaidRests", name := "now", desc := "(I)I" } : Jvm.MethodName)) ∈ jm_big := jm_tb 491 (by decide +kernel) (by decide +kernel)
theorem lz_492 : (Jvm.Cond.instanceMethod ({ cls := "PaidRests", name := "now", desc := "(I)I" } : Jvm.MethodName)) ∈ jm_big := jm_tb 492 (by decide +kernel) (by decide +kernel)
theorem lz_493 : (Jvm.Cond.selects "PaidRests" ({ cls := "PaidRests", name := "now", desc := "(I)I" } : Jvm.MethodName) ({ cls := "PaidRests", name := "now", desc := "(I)I" } : Jvm.MethodName)) ∈ jm_big := jm_tb 493 (by decide +kernel) (by decide +kernel)
theorem lz_494 : (Jvm.Cond.code ({ cls := "PaidRests", name := "now", desc := "(I)I" } : Jvm.MethodName) prog_1_method_8_code (2 : Nat) (Option.some Jvm.ClassFile.FieldType.int)) ∈ jm_big := jm_tb 494 (by decide +kernel) (by decide +kernel)
theorem lz_503 : (Jvm.Cond.methodLink "PaidRestsLaw" (44 : Nat) ({ cls := "PaidRests", name := "gives", desc := "(II)I" } : Jvm.MethodName)) ∈ jm_big := jm_tb 503 (by decide +kernel) (by decide +kernel)
theorem lz_504 : (Jvm.Cond.instanceMethod ({ cls := "PaidRests", name := "gives", desc := "(II)I" } : Jvm.MethodName)) ∈ jm_big := jm_tb 504 (by decide +kernel) (by decide +kernel)
theorem lz_505 : (Jvm.Cond.selects "PaidRests" ({ cls := "PaidRests", name := "gives", desc := "(II)I" } : Jvm.MethodName) ({ cls := "PaidRests", name := "gives", desc := "(II)I" } : Jvm.MethodName)) ∈ jm_big := jm_tb 505 (by decide +kernel) (by decide +kernel)
theorem lz_506 : (Jvm.Cond.code ({ cls := "PaidRests", name := "gives", desc := "(II)I" } : Jvm.MethodName) prog_1_method_9_code (4 : Nat) (Option.some Jvm.ClassFile.FieldType.int)) ∈ jm_big := jm_tb 506 (by decide +kernel) (by decide +kernel)
theorem lz_517 : (Jvm.Cond.methodLink "PaidRestsLaw" (48 : Nat) ({ cls := "PaidRests", name := "sleeps", desc := "(III)I" } : Jvm.MethodName)) ∈ jm_big := jm_tb 517 (by decide +kernel) (by decide +kernel)
theorem lz_518 : (Jvm.Cond.instanceMethod ({ cls := "PaidRests", name := "sleeps", desc := "(III)I" } : Jvm.MethodName)) ∈ jm_big := jm_tb 518 (by decide +kernel) (by decide +kernel)
theorem lz_519 : (Jvm.Cond.selects "PaidRests" ({ cls := "PaidRests", name := "sleeps", desc := "(III)I" } : Jvm.MethodName) ({ cls := "PaidRests", name := "sleeps", desc := "(III)I" } : Jvm.MethodName)) ∈ jm_big := jm_tb 519 (by decide +kernel) (by decide +kernel)
theorem lz_520 : (Jvm.Cond.code ({ cls := "PaidRests", name := "sleeps", desc := "(III)I" } : Jvm.MethodName) prog_1_method_10_code (5 : Nat) (Option.some Jvm.ClassFile.FieldType.int)) ∈ jm_big := jm_tb 520 (by decide +kernel) (by decide +kernel)
theorem lz_525 : (Jvm.Cond.methodLink "PaidRestsLaw" (53 : Nat) ({ cls := "PaidRests", name := "evening", desc := "()I" } : Jvm.MethodName)) ∈ jm_big := jm_tb 525 (by decide +kernel) (by decide +kernel)
theorem lz_526 : (Jvm.Cond.instanceMethod ({ cls := "PaidRests", name := "evening", desc := "()I" } : Jvm.MethodName)) ∈ jm_big := jm_tb 526 (by decide +kernel) (by decide +kernel)
theorem lz_527 : (Jvm.Cond.selects "PaidRests" ({ cls := "PaidRests", name := "evening", desc := "()I" } : Jvm.MethodName) ({ cls := "PaidRests", name := "evening", desc := "()I" } : Jvm.MethodName)) ∈ jm_big := jm_tb 527 (by decide +kernel) (by decide +kernel)
theorem lz_528 : (Jvm.Cond.code ({ cls := "PaidRests", name := "evening", desc := "()I" } : Jvm.MethodName) prog_1_method_11_code (3 : Nat) (Option.some Jvm.ClassFile.FieldType.int)) ∈ jm_big := jm_tb 528 (by decide +kernel) (by decide +kernel)
theorem lz_538 : (Jvm.Cond.methodLink "PaidRestsLaw" (57 : Nat) ({ cls := "PaidRests", name := "undo", desc := "()I" } : Jvm.MethodName)) ∈ jm_big := jm_tb 538 (by decide +kernel) (by decide +kernel)
theorem lz_539 : (Jvm.Cond.instanceMethod ({ cls := "PaidRests", name := "undo", desc := "()I" } : Jvm.MethodName)) ∈ jm_big := jm_tb 539 (by decide +kernel) (by decide +kernel)
theorem lz_540 : (Jvm.Cond.selects "PaidRests" ({ cls := "PaidRests", name := "undo", desc := "()I" } : Jvm.MethodName) ({ cls := "PaidRests", name := "undo", desc := "()I" } : Jvm.MethodName)) ∈ jm_big := jm_tb 540 (by decide +kernel) (by decide +kernel)
theorem lz_541 : (Jvm.Cond.code ({ cls := "PaidRests", name := "undo", desc := "()I" } : Jvm.MethodName) prog_1_method_12_code (1 : Nat) (Option.some Jvm.ClassFile.FieldType.int)) ∈ jm_big := jm_tb 541 (by decide +kernel) (by decide +kernel)
theorem lz_546 : (Jvm.Cond.methodLink "PaidRestsLaw" (61 : Nat) ({ cls := "PaidRests", name := "share", desc := "(I)I" } : Jvm.MethodName)) ∈ jm_big := jm_tb 546 (by decide +kernel) (by decide +kernel)
theorem lz_547 : (Jvm.Cond.instanceMethod ({ cls := "PaidRests", name := "share", desc := "(I)I" } : Jvm.MethodName)) ∈ jm_big := jm_tb 547 (by decide +kernel) (by decide +kernel)
theorem lz_548 : (Jvm.Cond.selects "PaidRests" ({ cls := "PaidRests", name := "share", desc := "(I)I" } : Jvm.MethodName) ({ cls := "PaidRests", name := "share", desc := "(I)I" } : Jvm.MethodName)) ∈ jm_big := jm_tb 548 (by decide +kernel) (by decide +kernel)
theorem lz_549 : (Jvm.Cond.code ({ cls := "PaidRests", name := "share", desc := "(I)I" } : Jvm.MethodName) prog_1_method_13_code (2 : Nat) (Option.some Jvm.ClassFile.FieldType.int)) ∈ jm_big := jm_tb 549 (by decide +kernel) (by decide +kernel)
theorem lz_575 : (Jvm.Cond.methodLink "PaidRestsLaw" (65 : Nat) ({ cls := "PaidRests", name := "costs", desc := "(I)I" } : Jvm.MethodName)) ∈ jm_big := jm_tb 575 (by decide +kernel) (by decide +kernel)
theorem lz_576 : (Jvm.Cond.instanceMethod ({ cls := "PaidRests", name := "costs", desc := "(I)I" } : Jvm.MethodName)) ∈ jm_big := jm_tb 576 (by decide +kernel) (by decide +kernel)
theorem lz_577 : (Jvm.Cond.selects "PaidRests" ({ cls := "PaidRests", name := "costs", desc := "(I)I" } : Jvm.MethodName) ({ cls := "PaidRests", name := "costs", desc := "(I)I" } : Jvm.MethodName)) ∈ jm_big := jm_tb 577 (by decide +kernel) (by decide +kernel)
theorem lz_578 : (Jvm.Cond.code ({ cls := "PaidRests", name := "costs", desc := "(I)I" } : Jvm.MethodName) prog_1_method_14_code (2 : Nat) (Option.some Jvm.ClassFile.FieldType.int)) ∈ jm_big := jm_tb 578 (by decide +kernel) (by decide +kernel)
theorem lz_584 : (Jvm.Cond.methodLink "PaidRestsLaw" (69 : Nat) ({ cls := "PaidRests", name := "exchange", desc := "()I" } : Jvm.MethodName)) ∈ jm_big := jm_tb 584 (by decide +kernel) (by decide +kernel)
theorem lz_585 : (Jvm.Cond.instanceMethod ({ cls := "PaidRests", name := "exchange", desc := "()I" } : Jvm.MethodName)) ∈ jm_big := jm_tb 585 (by decide +kernel) (by decide +kernel)
theorem lz_586 : (Jvm.Cond.selects "PaidRests" ({ cls := "PaidRests", name := "exchange", desc := "()I" } : Jvm.MethodName) ({ cls := "PaidRests", name := "exchange", desc := "()I" } : Jvm.MethodName)) ∈ jm_big := jm_tb 586 (by decide +kernel) (by decide +kernel)
theorem lz_587 : (Jvm.Cond.code ({ cls := "PaidRests", name := "exchange", desc := "()I" } : Jvm.MethodName) prog_1_method_15_code (6 : Nat) (Option.some Jvm.ClassFile.FieldType.int)) ∈ jm_big := jm_tb 587 (by decide +kernel) (by decide +kernel)
theorem lz_596 : (Jvm.Cond.methodLink "PaidRestsLaw" (73 : Nat) ({ cls := "PaidRests", name := "leftOut", desc := "(II)I" } : Jvm.MethodName)) ∈ jm_big := jm_tb 596 (by decide +kernel) (by decide +kernel)
theorem lz_597 : (Jvm.Cond.instanceMethod ({ cls := "PaidRests", name := "leftOut", desc := "(II)I" } : Jvm.MethodName)) ∈ jm_big := jm_tb 597 (by decide +kernel) (by decide +kernel)
theorem lz_598 : (Jvm.Cond.selects "PaidRests" ({ cls := "PaidRests", name := "leftOut", desc := "(II)I" } : Jvm.MethodName) ({ cls := "PaidRests", name := "leftOut", desc := "(II)I" } : Jvm.MethodName)) ∈ jm_big := jm_tb 598 (by decide +kernel) (by decide +kernel)
theorem lz_599 : (Jvm.Cond.code ({ cls := "PaidRests", name := "leftOut", desc := "(II)I" } : Jvm.MethodName) prog_1_method_16_code (4 : Nat) (Option.some Jvm.ClassFile.FieldType.int)) ∈ jm_big := jm_tb 599 (by decide +kernel) (by decide +kernel)
theorem lz_624 : (Jvm.Cond.methodLink "PaidRestsLaw" (77 : Nat) ({ cls := "PaidRests", name := "bars", desc := "(I)I" } : Jvm.MethodName)) ∈ jm_big := jm_tb 624 (by decide +kernel) (by decide +kernel)
theorem lz_625 : (Jvm.Cond.instanceMethod ({ cls := "PaidRests", name := "bars", desc := "(I)I" } : Jvm.MethodName)) ∈ jm_big := jm_tb 625 (by decide +kernel) (by decide +kernel)
theorem lz_626 : (Jvm.Cond.selects "PaidRests" ({ cls := "PaidRests", name := "bars", desc := "(I)I" } : Jvm.MethodName) ({ cls := "PaidRests", name := "bars", desc := "(I)I" } : Jvm.MethodName)) ∈ jm_big := jm_tb 626 (by decide +kernel) (by decide +kernel)
theorem lz_627 : (Jvm.Cond.code ({ cls := "PaidRests", name := "bars", desc := "(I)I" } : Jvm.MethodName) prog_1_method_17_code (2 : Nat) (Option.some Jvm.ClassFile.FieldType.int)) ∈ jm_big := jm_tb 627 (by decide +kernel) (by decide +kernel)
theorem lz_637 : (Jvm.Cond.methodLink "PaidRestsLaw" (81 : Nat) ({ cls := "PaidRests", name := "heard", desc := "(I)I" } : Jvm.MethodName)) ∈ jm_big := jm_tb 637 (by decide +kernel) (by decide +kernel)
theorem lz_638 : (Jvm.Cond.instanceMethod ({ cls := "PaidRests", name := "heard", desc := "(I)I" } : Jvm.MethodName)) ∈ jm_big := jm_tb 638 (by decide +kernel) (by decide +kernel)
theorem lz_639 : (Jvm.Cond.selects "PaidRests" ({ cls := "PaidRests", name := "heard", desc := "(I)I" } : Jvm.MethodName) ({ cls := "PaidRests", name := "heard", desc := "(I)I" } : Jvm.MethodName)) ∈ jm_big := jm_tb 639 (by decide +kernel) (by decide +kernel)
theorem lz_640 : (Jvm.Cond.code ({ cls := "PaidRests", name := "heard", desc := "(I)I" } : Jvm.MethodName) prog_1_method_18_code (2 : Nat) (Option.some Jvm.ClassFile.FieldType.int)) ∈ jm_big := jm_tb 640 (by decide +kernel) (by decide +kernel)
theorem lz_649 : (Jvm.Cond.methodLink "PaidRestsLaw" (85 : Nat) ({ cls := "PaidRests", name := "rests", desc := "(I)I" } : Jvm.MethodName)) ∈ jm_big := jm_tb 649 (by decide +kernel) (by decide +kernel)
theorem lz_650 : (Jvm.Cond.instanceMethod ({ cls := "PaidRests", name := "rests", desc := "(I)I" } : Jvm.MethodName)) ∈ jm_big := jm_tb 650 (by decide +kernel) (by decide +kernel)
theorem lz_651 : (Jvm.Cond.selects "PaidRests" ({ cls := "PaidRests", name := "rests", desc := "(I)I" } : Jvm.MethodName) ({ cls := "PaidRests", name := "rests", desc := "(I)I" } : Jvm.MethodName)) ∈ jm_big := jm_tb 651 (by decide +kernel) (by decide +kernel)
theorem lz_652 : (Jvm.Cond.code ({ cls := "PaidRests", name := "rests", desc := "(I)I" } : Jvm.MethodName) prog_1_method_19_code (2 : Nat) (Option.some Jvm.ClassFile.FieldType.int)) ∈ jm_big := jm_tb 652 (by decide +kernel) (by decide +kernel)
theorem lz_653 : (Jvm.Cond.methodLink "PaidRestsLaw" (89 : Nat) ({ cls := "PaidRests", name := "first", desc := "()I" } : Jvm.MethodName)) ∈ jm_big := jm_tb 653 (by decide +kernel) (by decide +kernel)
theorem lz_654 : (Jvm.Cond.instanceMethod ({ cls := "PaidRests", name := "first", desc := "()I" } : Jvm.MethodName)) ∈ jm_big := jm_tb 654 (by decide +kernel) (by decide +kernel)
theorem lz_655 : (Jvm.Cond.selects "PaidRests" ({ cls := "PaidRests", name := "first", desc := "()I" } : Jvm.MethodName) ({ cls := "PaidRests", name := "first", desc := "()I" } : Jvm.MethodName)) ∈ jm_big := jm_tb 655 (by decide +kernel) (by decide +kernel)
theorem lz_656 : (Jvm.Cond.code ({ cls := "PaidRests", name := "first", desc := "()I" } : Jvm.MethodName) prog_1_method_20_code (5 : Nat) (Option.some Jvm.ClassFile.FieldType.int)) ∈ jm_big := jm_tb 656 (by decide +kernel) (by decide +kernel)
theorem lz_658 : (Jvm.Cond.methodLink "PaidRestsLaw" (93 : Nat) ({ cls := "PaidRests", name := "noted", desc := "(II)I" } : Jvm.MethodName)) ∈ jm_big := jm_tb 658 (by decide +kernel) (by decide +kernel)
theorem lz_659 : (Jvm.Cond.instanceMethod ({ cls := "PaidRests", name := "noted", desc := "(II)I" } : Jvm.MethodName)) ∈ jm_big := jm_tb 659 (by decide +kernel) (by decide +kernel)
theorem lz_660 : (Jvm.Cond.selects "PaidRests" ({ cls := "PaidRests", name := "noted", desc := "(II)I" } : Jvm.MethodName) ({ cls := "PaidRests", name := "noted", desc := "(II)I" } : Jvm.MethodName)) ∈ jm_big := jm_tb 660 (by decide +kernel) (by decide +kernel)
theorem lz_661 : (Jvm.Cond.code ({ cls := "PaidRests", name := "noted", desc := "(II)I" } : Jvm.MethodName) prog_1_method_21_code (3 : Nat) (Option.some Jvm.ClassFile.FieldType.int)) ∈ jm_big := jm_tb 661 (by decide +kernel) (by decide +kernel)
theorem lz_662 : (Jvm.Cond.methodLink "PaidRestsLaw" (97 : Nat) ({ cls := "PaidRests", name := "forget", desc := "()I" } : Jvm.MethodName)) ∈ jm_big := jm_tb 662 (by decide +kernel) (by decide +kernel)
theorem lz_663 : (Jvm.Cond.instanceMethod ({ cls := "PaidRests", name := "forget", desc := "()I" } : Jvm.MethodName)) ∈ jm_big := jm_tb 663 (by decide +kernel) (by decide +kernel)
theorem lz_664 : (Jvm.Cond.selects "PaidRests" ({ cls := "PaidRests", name := "forget", desc := "()I" } : Jvm.MethodName) ({ cls := "PaidRests", name := "forget", desc := "()I" } : Jvm.MethodName)) ∈ jm_big := jm_tb 664 (by decide +kernel) (by decide +kernel)
theorem lz_665 : (Jvm.Cond.code ({ cls := "PaidRests", name := "forget", desc := "()I" } : Jvm.MethodName) prog_1_method_22_code (2 : Nat) (Option.some Jvm.ClassFile.FieldType.int)) ∈ jm_big := jm_tb 665 (by decide +kernel) (by decide +kernel)
theorem lz_666 : (Jvm.Cond.methodLink "PaidRestsLaw" (101 : Nat) ({ cls := "PaidRests", name := "who", desc := "()I" } : Jvm.MethodName)) ∈ jm_big := jm_tb 666 (by decide +kernel) (by decide +kernel)
theorem lz_667 : (Jvm.Cond.instanceMethod ({ cls := "PaidRests", name := "who", desc := "()I" } : Jvm.MethodName)) ∈ jm_big := jm_tb 667 (by decide +kernel) (by decide +kernel)
theorem lz_668 : (Jvm.Cond.selects "PaidRests" ({ cls := "PaidRests", name := "who", desc := "()I" } : Jvm.MethodName) ({ cls := "PaidRests", name := "who", desc := "()I" } : Jvm.MethodName)) ∈ jm_big := jm_tb 668 (by decide +kernel) (by decide +kernel)
theorem lz_669 : (Jvm.Cond.code ({ cls := "PaidRests", name := "who", desc := "()I" } : Jvm.MethodName) prog_1_method_23_code (3 : Nat) (Option.some Jvm.ClassFile.FieldType.int)) ∈ jm_big := jm_tb 669 (by decide +kernel) (by decide +kernel)
theorem lz_674 : (Jvm.Cond.methodLink "PaidRestsLaw" (105 : Nat) ({ cls := "PaidRests", name := "broke", desc := "()I" } : Jvm.MethodName)) ∈ jm_big := jm_tb 674 (by decide +kernel) (by decide +kernel)
theorem lz_675 : (Jvm.Cond.instanceMethod ({ cls := "PaidRests", name := "broke", desc := "()I" } : Jvm.MethodName)) ∈ jm_big := jm_tb 675 (by decide +kernel) (by decide +kernel)
theorem lz_676 : (Jvm.Cond.selects "PaidRests" ({ cls := "PaidRests", name := "broke", desc := "()I" } : Jvm.MethodName) ({ cls := "PaidRests", name := "broke", desc := "()I" } : Jvm.MethodName)) ∈ jm_big := jm_tb 676 (by decide +kernel) (by decide +kernel)
theorem lz_677 : (Jvm.Cond.code ({ cls := "PaidRests", name := "broke", desc := "()I" } : Jvm.MethodName) prog_1_method_24_code (2 : Nat) (Option.some Jvm.ClassFile.FieldType.int)) ∈ jm_big := jm_tb 677 (by decide +kernel) (by decide +kernel)
theorem lz_699 : (Jvm.Cond.methodLink "PaidRestsLaw" (109 : Nat) ({ cls := "PaidRests", name := "rich", desc := "(I)I" } : Jvm.MethodName)) ∈ jm_big := jm_tb 699 (by decide +kernel) (by decide +kernel)
theorem lz_700 : (Jvm.Cond.instanceMethod ({ cls := "PaidRests", name := "rich", desc := "(I)I" } : Jvm.MethodName)) ∈ jm_big := jm_tb 700 (by decide +kernel) (by decide +kernel)
theorem lz_701 : (Jvm.Cond.selects "PaidRests" ({ cls := "PaidRests", name := "rich", desc := "(I)I" } : Jvm.MethodName) ({ cls := "PaidRests", name := "rich", desc := "(I)I" } : Jvm.MethodName)) ∈ jm_big := jm_tb 701 (by decide +kernel) (by decide +kernel)
theorem lz_702 : (Jvm.Cond.code ({ cls := "PaidRests", name := "rich", desc := "(I)I" } : Jvm.MethodName) prog_1_method_25_code (3 : Nat) (Option.some Jvm.ClassFile.FieldType.int)) ∈ jm_big := jm_tb 702 (by decide +kernel) (by decide +kernel)
theorem lz_707 : (Jvm.Cond.methodLink "PaidRestsLaw" (113 : Nat) ({ cls := "PaidRests", name := "odds", desc := "(IIII)I" } : Jvm.MethodName)) ∈ jm_big := jm_tb 707 (by decide +kernel) (by decide +kernel)
theorem lz_708 : (Jvm.Cond.instanceMethod ({ cls := "PaidRests", name := "odds", desc := "(IIII)I" } : Jvm.MethodName)) ∈ jm_big := jm_tb 708 (by decide +kernel) (by decide +kernel)
theorem lz_709 : (Jvm.Cond.selects "PaidRests" ({ cls := "PaidRests", name := "odds", desc := "(IIII)I" } : Jvm.MethodName) ({ cls := "PaidRests", name := "odds", desc := "(IIII)I" } : Jvm.MethodName)) ∈ jm_big := jm_tb 709 (by decide +kernel) (by decide +kernel)
theorem lz_710 : (Jvm.Cond.code ({ cls := "PaidRests", name := "odds", desc := "(IIII)I" } : Jvm.MethodName) prog_1_method_26_code (9 : Nat) (Option.some Jvm.ClassFile.FieldType.int)) ∈ jm_big := jm_tb 710 (by decide +kernel) (by decide +kernel)
theorem lz_718 : (Jvm.Cond.methodLink "PaidRestsLaw" (118 : Nat) ({ cls := "PaidRests", name := "rate", desc := "(II)I" } : Jvm.MethodName)) ∈ jm_big := jm_tb 718 (by decide +kernel) (by decide +kernel)
theorem lz_719 : (Jvm.Cond.instanceMethod ({ cls := "PaidRests", name := "rate", desc := "(II)I" } : Jvm.MethodName)) ∈ jm_big := jm_tb 719 (by decide +kernel) (by decide +kernel)
theorem lz_720 : (Jvm.Cond.selects "PaidRests" ({ cls := "PaidRests", name := "rate", desc := "(II)I" } : Jvm.MethodName) ({ cls := "PaidRests", name := "rate", desc := "(II)I" } : Jvm.MethodName)) ∈ jm_big := jm_tb 720 (by decide +kernel) (by decide +kernel)
theorem lz_721 : (Jvm.Cond.code ({ cls := "PaidRests", name := "rate", desc := "(II)I" } : Jvm.MethodName) prog_1_method_27_code (3 : Nat) (Option.some Jvm.ClassFile.FieldType.int)) ∈ jm_big := jm_tb 721 (by decide +kernel) (by decide +kernel)
theorem lz_751 : (Jvm.Cond.methodLink "PaidRestsLaw" (122 : Nat) ({ cls := "PaidRests", name := "keep", desc := "(I)I" } : Jvm.MethodName)) ∈ jm_big := jm_tb 751 (by decide +kernel) (by decide +kernel)
theorem lz_752 : (Jvm.Cond.instanceMethod ({ cls := "PaidRests", name := "keep", desc := "(I)I" } : Jvm.MethodName)) ∈ jm_big := jm_tb 752 (by decide +kernel) (by decide +kernel)
theorem lz_753 : (Jvm.Cond.selects "PaidRests" ({ cls := "PaidRests", name := "keep", desc := "(I)I" } : Jvm.MethodName) ({ cls := "PaidRests", name := "keep", desc := "(I)I" } : Jvm.MethodName)) ∈ jm_big := jm_tb 753 (by decide +kernel) (by decide +kernel)
theorem lz_754 : (Jvm.Cond.code ({ cls := "PaidRests", name := "keep", desc := "(I)I" } : Jvm.MethodName) prog_1_method_28_code (2 : Nat) (Option.some Jvm.ClassFile.FieldType.int)) ∈ jm_big := jm_tb 754 (by decide +kernel) (by decide +kernel)
theorem lz_756 : (Jvm.Cond.methodLink "PaidRestsLaw" (126 : Nat) ({ cls := "PaidRests", name := "back", desc := "(I)I" } : Jvm.MethodName)) ∈ jm_big := jm_tb 756 (by decide +kernel) (by decide +kernel)
theorem lz_757 : (Jvm.Cond.instanceMethod ({ cls := "PaidRests", name := "back", desc := "(I)I" } : Jvm.MethodName)) ∈ jm_big := jm_tb 757 (by decide +kernel) (by decide +kernel)
theorem lz_758 : (Jvm.Cond.selects "PaidRests" ({ cls := "PaidRests", name := "back", desc := "(I)I" } : Jvm.MethodName) ({ cls := "PaidRests", name := "back", desc := "(I)I" } : Jvm.MethodName)) ∈ jm_big := jm_tb 758 (by decide +kernel) (by decide +kernel)
theorem lz_759 : (Jvm.Cond.code ({ cls := "PaidRests", name := "back", desc := "(I)I" } : Jvm.MethodName) prog_1_method_29_code (2 : Nat) (Option.some Jvm.ClassFile.FieldType.int)) ∈ jm_big := jm_tb 759 (by decide +kernel) (by decide +kernel)
theorem lz_760 : (Jvm.Cond.methodLink "PaidRestsLaw" (130 : Nat) ({ cls := "PaidRests", name := "count", desc := "(I)I" } : Jvm.MethodName)) ∈ jm_big := jm_tb 760 (by decide +kernel) (by decide +kernel)
theorem lz_761 : (Jvm.Cond.instanceMethod ({ cls := "PaidRests", name := "count", desc := "(I)I" } : Jvm.MethodName)) ∈ jm_big := jm_tb 761 (by decide +kernel) (by decide +kernel)
theorem lz_762 : (Jvm.Cond.selects "PaidRests" ({ cls := "PaidRests", name := "count", desc := "(I)I" } : Jvm.MethodName) ({ cls := "PaidRests", name := "count", desc := "(I)I" } : Jvm.MethodName)) ∈ jm_big := jm_tb 762 (by decide +kernel) (by decide +kernel)
theorem lz_763 : (Jvm.Cond.code ({ cls := "PaidRests", name := "count", desc := "(I)I" } : Jvm.MethodName) prog_1_method_30_code (2 : Nat) (Option.some Jvm.ClassFile.FieldType.int)) ∈ jm_big := jm_tb 763 (by decide +kernel) (by decide +kernel)
theorem lz_764 : (Jvm.Cond.methodLink "PaidRestsLaw" (134 : Nat) ({ cls := "PaidRests", name := "trace", desc := "()J" } : Jvm.MethodName)) ∈ jm_big := jm_tb 764 (by decide +kernel) (by decide +kernel)
theorem lz_765 : (Jvm.Cond.instanceMethod ({ cls := "PaidRests", name := "trace", desc := "()J" } : Jvm.MethodName)) ∈ jm_big := jm_tb 765 (by decide +kernel) (by decide +kernel)
theorem lz_766 : (Jvm.Cond.selects "PaidRests" ({ cls := "PaidRests", name := "trace", desc := "()J" } : Jvm.MethodName) ({ cls := "PaidRests", name := "trace", desc := "()J" } : Jvm.MethodName)) ∈ jm_big := jm_tb 766 (by decide +kernel) (by decide +kernel)
theorem lz_767 : (Jvm.Cond.code ({ cls := "PaidRests", name := "trace", desc := "()J" } : Jvm.MethodName) prog_1_method_31_code (1 : Nat) (Option.some Jvm.ClassFile.FieldType.long)) ∈ jm_big := jm_tb 767 (by decide +kernel) (by decide +kernel)
theorem lz_860 : (Jvm.Cond.methodLink "PaidRestsLaw" (17 : Nat) ({ cls := "PaidRestsModel", name := "type", desc := "(I)I" } : Jvm.MethodName)) ∈ jm_big := jm_tb 860 (by decide +kernel) (by decide +kernel)
theorem lz_861 : (Jvm.Cond.instanceMethod ({ cls := "PaidRestsModel", name := "type", desc := "(I)I" } : Jvm.MethodName)) ∈ jm_big := jm_tb 861 (by decide +kernel) (by decide +kernel)
theorem lz_862 : (Jvm.Cond.selects "PaidRestsModel" ({ cls := "PaidRestsModel", name := "type", desc := "(I)I" } : Jvm.MethodName) ({ cls := "PaidRestsModel", name := "type", desc := "(I)I" } : Jvm.MethodName)) ∈ jm_big := jm_tb 862 (by decide +kernel) (by decide +kernel)
theorem lz_863 : (Jvm.Cond.code ({ cls := "PaidRestsModel", name := "type", desc := "(I)I" } : Jvm.MethodName) prog_11_method_5_code (2 : Nat) (Option.some Jvm.ClassFile.FieldType.int)) ∈ jm_big := jm_tb 863 (by decide +kernel) (by decide +kernel)
theorem lz_867 : (Jvm.Cond.methodLink "PaidRestsLaw" (22 : Nat) ({ cls := "PaidRestsModel", name := "clear", desc := "()I" } : Jvm.MethodName)) ∈ jm_big := jm_tb 867 (by decide +kernel) (by decide +kernel)
theorem lz_868 : (Jvm.Cond.instanceMethod ({ cls := "PaidRestsModel", name := "clear", desc := "()I" } : Jvm.MethodName)) ∈ jm_big := jm_tb 868 (by decide +kernel) (by decide +kernel)
theorem lz_869 : (Jvm.Cond.selects "PaidRestsModel" ({ cls := "PaidRestsModel", name := "clear", desc := "()I" } : Jvm.MethodName) ({ cls := "PaidRestsModel", name := "clear", desc := "()I" } : Jvm.MethodName)) ∈ jm_big := jm_tb 869 (by decide +kernel) (by decide +kernel)
theorem lz_870 : (Jvm.Cond.code ({ cls := "PaidRestsModel", name := "clear", desc := "()I" } : Jvm.MethodName) prog_11_method_6_code (2 : Nat) (Option.some Jvm.ClassFile.FieldType.int)) ∈ jm_big := jm_tb 870 (by decide +kernel) (by decide +kernel)
theorem lz_871 : (Jvm.Cond.methodLink "PaidRestsLaw" (26 : Nat) ({ cls := "PaidRestsModel", name := "score", desc := "()I" } : Jvm.MethodName)) ∈ jm_big := jm_tb 871 (by decide +kernel) (by decide +kernel)
theorem lz_872 : (Jvm.Cond.instanceMethod ({ cls := "PaidRestsModel", name := "score", desc := "()I" } : Jvm.MethodName)) ∈ jm_big := jm_tb 872 (by decide +kernel) (by decide +kernel)
theorem lz_873 : (Jvm.Cond.selects "PaidRestsModel" ({ cls := "PaidRestsModel", name := "score", desc := "()I" } : Jvm.MethodName) ({ cls := "PaidRestsModel", name := "score", desc := "()I" } : Jvm.MethodName)) ∈ jm_big := jm_tb 873 (by decide +kernel) (by decide +kernel)
theorem lz_874 : (Jvm.Cond.code ({ cls := "PaidRestsModel", name := "score", desc := "()I" } : Jvm.MethodName) prog_11_method_15_code (3 : Nat) (Option.some Jvm.ClassFile.FieldType.int)) ∈ jm_big := jm_tb 874 (by decide +kernel) (by decide +kernel)
theorem lz_910 : (Jvm.Cond.methodLink "PaidRestsLaw" (31 : Nat) ({ cls := "PaidRestsModel", name := "part", desc := "(II)I" } : Jvm.MethodName)) ∈ jm_big := jm_tb 910 (by decide +kernel) (by decide +kernel)
theorem lz_911 : (Jvm.Cond.instanceMethod ({ cls := "PaidRestsModel", name := "part", desc := "(II)I" } : Jvm.MethodName)) ∈ jm_big := jm_tb 911 (by decide +kernel) (by decide +kernel)
theorem lz_912 : (Jvm.Cond.selects "PaidRestsModel" ({ cls := "PaidRestsModel", name := "part", desc := "(II)I" } : Jvm.MethodName) ({ cls := "PaidRestsModel", name := "part", desc := "(II)I" } : Jvm.MethodName)) ∈ jm_big := jm_tb 912 (by decide +kernel) (by decide +kernel)
theorem lz_913 : (Jvm.Cond.code ({ cls := "PaidRestsModel", name := "part", desc := "(II)I" } : Jvm.MethodName) prog_11_method_25_code (3 : Nat) (Option.some Jvm.ClassFile.FieldType.int)) ∈ jm_big := jm_tb 913 (by decide +kernel) (by decide +kernel)
theorem lz_918 : (Jvm.Cond.methodLink "PaidRestsLaw" (35 : Nat) ({ cls := "PaidRestsModel", name := "player", desc := "(II)I" } : Jvm.MethodName)) ∈ jm_big := jm_tb 918 (by decide +kernel) (by decide +kernel)
theorem lz_919 : (Jvm.Cond.instanceMethod ({ cls := "PaidRestsModel", name := "player", desc := "(II)I" } : Jvm.MethodName)) ∈ jm_big := jm_tb 919 (by decide +kernel) (by decide +kernel)
theorem lz_920 : (Jvm.Cond.selects "PaidRestsModel" ({ cls := "PaidRestsModel", name := "player", desc := "(II)I" } : Jvm.MethodName) ({ cls := "PaidRestsModel", name := "player", desc := "(II)I" } : Jvm.MethodName)) ∈ jm_big := jm_tb 920 (by decide +kernel) (by decide +kernel)
theorem lz_921 : (Jvm.Cond.code ({ cls := "PaidRestsModel", name := "player", desc := "(II)I" } : Jvm.MethodName) prog_11_method_27_code (3 : Nat) (Option.some Jvm.ClassFile.FieldType.int)) ∈ jm_big := jm_tb 921 (by decide +kernel) (by decide +kernel)
theorem lz_953 : (Jvm.Cond.methodLink "PaidRestsLaw" (39 : Nat) ({ cls := "PaidRestsModel", name := "coins", desc := "(II)I" } : Jvm.MethodName)) ∈ jm_big := jm_tb 953 (by decide +kernel) (by decide +kernel)
theorem lz_954 : (Jvm.Cond.instanceMethod ({ cls := "PaidRestsModel", name := "coins", desc := "(II)I" } : Jvm.MethodName)) ∈ jm_big := jm_tb 954 (by decide +kernel) (by decide +kernel)
theorem lz_955 : (Jvm.Cond.selects "PaidRestsModel" ({ cls := "PaidRestsModel", name := "coins", desc := "(II)I" } : Jvm.MethodName) ({ cls := "PaidRestsModel", name := "coins", desc := "(II)I" } : Jvm.MethodName)) ∈ jm_big := jm_tb 955 (by decide +kernel) (by decide +kernel)
theorem lz_956 : (Jvm.Cond.code ({ cls := "PaidRestsModel", name := "coins", desc := "(II)I" } : Jvm.MethodName) prog_11_method_28_code (3 : Nat) (Option.some Jvm.ClassFile.FieldType.int)) ∈ jm_big := jm_tb 956 (by decide +kernel) (by decide +kernel)
theorem lz_958 : (Jvm.Cond.methodLink "PaidRestsLaw" (43 : Nat) ({ cls := "PaidRestsModel", name := "now", desc := "(I)I" } : Jvm.MethodName)) ∈ jm_big := jm_tb 958 (by decide +kernel) (by decide +kernel)
theorem lz_959 : (Jvm.Cond.instanceMethod ({ cls := "PaidRestsModel", name := "now", desc := "(I)I" } : Jvm.MethodName)) ∈ jm_big := jm_tb 959 (by decide +kernel) (by decide +kernel)
theorem lz_960 : (Jvm.Cond.selects "PaidRestsModel" ({ cls := "PaidRestsModel", name := "now", desc := "(I)I" } : Jvm.MethodName) ({ cls := "PaidRestsModel", name := "now", desc := "(I)I" } : Jvm.MethodName)) ∈ jm_big := jm_tb 960 (by decide +kernel) (by decide +kernel)
theorem lz_961 : (Jvm.Cond.code ({ cls := "PaidRestsModel", name := "now", desc := "(I)I" } : Jvm.MethodName) prog_11_method_29_code (5 : Nat) (Option.some Jvm.ClassFile.FieldType.int)) ∈ jm_big := jm_tb 961 (by decide +kernel) (by decide +kernel)
theorem lz_962 : (Jvm.Cond.methodLink "PaidRestsLaw" (47 : Nat) ({ cls := "PaidRestsModel", name := "gives", desc := "(II)I" } : Jvm.MethodName)) ∈ jm_big := jm_tb 962 (by decide +kernel) (by decide +kernel)
theorem lz_963 : (Jvm.Cond.instanceMethod ({ cls := "PaidRestsModel", name := "gives", desc := "(II)I" } : Jvm.MethodName)) ∈ jm_big := jm_tb 963 (by decide +kernel) (by decide +kernel)
theorem lz_964 : (Jvm.Cond.selects "PaidRestsModel" ({ cls := "PaidRestsModel", name := "gives", desc := "(II)I" } : Jvm.MethodName) ({ cls := "PaidRestsModel", name := "gives", desc := "(II)I" } : Jvm.MethodName)) ∈ jm_big := jm_tb 964 (by decide +kernel) (by decide +kernel)
theorem lz_965 : (Jvm.Cond.code ({ cls := "PaidRestsModel", name := "gives", desc := "(II)I" } : Jvm.MethodName) prog_11_method_31_code (4 : Nat) (Option.some Jvm.ClassFile.FieldType.int)) ∈ jm_big := jm_tb 965 (by decide +kernel) (by decide +kernel)
theorem lz_970 : (Jvm.Cond.methodLink "PaidRestsLaw" (52 : Nat) ({ cls := "PaidRestsModel", name := "sleeps", desc := "(III)I" } : Jvm.MethodName)) ∈ jm_big := jm_tb 970 (by decide +kernel) (by decide +kernel)
theorem lz_971 : (Jvm.Cond.instanceMethod ({ cls := "PaidRestsModel", name := "sleeps", desc := "(III)I" } : Jvm.MethodName)) ∈ jm_big := jm_tb 971 (by decide +kernel) (by decide +kernel)
theorem lz_972 : (Jvm.Cond.selects "PaidRestsModel" ({ cls := "PaidRestsModel", name := "sleeps", desc := "(III)I" } : Jvm.MethodName) ({ cls := "PaidRestsModel", name := "sleeps", desc := "(III)I" } : Jvm.MethodName)) ∈ jm_big := jm_tb 972 (by decide +kernel) (by decide +kernel)
theorem lz_973 : (Jvm.Cond.code ({ cls := "PaidRestsModel", name := "sleeps", desc := "(III)I" } : Jvm.MethodName) prog_11_method_32_code (5 : Nat) (Option.some Jvm.ClassFile.FieldType.int)) ∈ jm_big := jm_tb 973 (by decide +kernel) (by decide +kernel)
theorem lz_974 : (Jvm.Cond.methodLink "PaidRestsLaw" (56 : Nat) ({ cls := "PaidRestsModel", name := "evening", desc := "()I" } : Jvm.MethodName)) ∈ jm_big := jm_tb 974 (by decide +kernel) (by decide +kernel)
theorem lz_975 : (Jvm.Cond.instanceMethod ({ cls := "PaidRestsModel", name := "evening", desc := "()I" } : Jvm.MethodName)) ∈ jm_big := jm_tb 975 (by decide +kernel) (by decide +kernel)
theorem lz_976 : (Jvm.Cond.selects "PaidRestsModel" ({ cls := "PaidRestsModel", name := "evening", desc := "()I" } : Jvm.MethodName) ({ cls := "PaidRestsModel", name := "evening", desc := "()I" } : Jvm.MethodName)) ∈ jm_big := jm_tb 976 (by decide +kernel) (by decide +kernel)
theorem lz_977 : (Jvm.Cond.code ({ cls := "PaidRestsModel", name := "evening", desc := "()I" } : Jvm.MethodName) prog_11_method_34_code (1 : Nat) (Option.some Jvm.ClassFile.FieldType.int)) ∈ jm_big := jm_tb 977 (by decide +kernel) (by decide +kernel)
theorem lz_982 : (Jvm.Cond.methodLink "PaidRestsLaw" (60 : Nat) ({ cls := "PaidRestsModel", name := "undo", desc := "()I" } : Jvm.MethodName)) ∈ jm_big := jm_tb 982 (by decide +kernel) (by decide +kernel)
theorem lz_983 : (Jvm.Cond.instanceMethod ({ cls := "PaidRestsModel", name := "undo", desc := "()I" } : Jvm.MethodName)) ∈ jm_big := jm_tb 983 (by decide +kernel) (by decide +kernel)
theorem lz_984 : (Jvm.Cond.selects "PaidRestsModel" ({ cls := "PaidRestsModel", name := "undo", desc := "()I" } : Jvm.MethodName) ({ cls := "PaidRestsModel", name := "undo", desc := "()I" } : Jvm.MethodName)) ∈ jm_big := jm_tb 984 (by decide +kernel) (by decide +kernel)
theorem lz_985 : (Jvm.Cond.code ({ cls := "PaidRestsModel", name := "undo", desc := "()I" } : Jvm.MethodName) prog_11_method_35_code (2 : Nat) (Option.some Jvm.ClassFile.FieldType.int)) ∈ jm_big := jm_tb 985 (by decide +kernel) (by decide +kernel)
theorem lz_986 : (Jvm.Cond.methodLink "PaidRestsLaw" (64 : Nat) ({ cls := "PaidRestsModel", name := "share", desc := "(I)I" } : Jvm.MethodName)) ∈ jm_big := jm_tb 986 (by decide +kernel) (by decide +kernel)
theorem lz_987 : (Jvm.Cond.instanceMethod ({ cls := "PaidRestsModel", name := "share", desc := "(I)I" } : Jvm.MethodName)) ∈ jm_big := jm_tb 987 (by decide +kernel) (by decide +kernel)
theorem lz_988 : (Jvm.Cond.selects "PaidRestsModel" ({ cls := "PaidRestsModel", name := "share", desc := "(I)I" } : Jvm.MethodName) ({ cls := "PaidRestsModel", name := "share", desc := "(I)I" } : Jvm.MethodName)) ∈ jm_big := jm_tb 988 (by decide +kernel) (by decide +kernel)
theorem lz_989 : (Jvm.Cond.code ({ cls := "PaidRestsModel", name := "share", desc := "(I)I" } : Jvm.MethodName) prog_11_method_38_code (5 : Nat) (Option.some Jvm.ClassFile.FieldType.int)) ∈ jm_big := jm_tb 989 (by decide +kernel) (by decide +kernel)
theorem lz_995 : (Jvm.Cond.methodLink "PaidRestsLaw" (68 : Nat) ({ cls := "PaidRestsModel", name := "costs", desc := "(I)I" } : Jvm.MethodName)) ∈ jm_big := jm_tb 995 (by decide +kernel) (by decide +kernel)
theorem lz_996 : (Jvm.Cond.instanceMethod ({ cls := "PaidRestsModel", name := "costs", desc := "(I)I" } : Jvm.MethodName)) ∈ jm_big := jm_tb 996 (by decide +kernel) (by decide +kernel)
theorem lz_997 : (Jvm.Cond.selects "PaidRestsModel" ({ cls := "PaidRestsModel", name := "costs", desc := "(I)I" } : Jvm.MethodName) ({ cls := "PaidRestsModel", name := "costs", desc := "(I)I" } : Jvm.MethodName)) ∈ jm_big := jm_tb 997 (by decide +kernel) (by decide +kernel)
theorem lz_998 : (Jvm.Cond.code ({ cls := "PaidRestsModel", name := "costs", desc := "(I)I" } : Jvm.MethodName) prog_11_method_40_code (2 : Nat) (Option.some Jvm.ClassFile.FieldType.int)) ∈ jm_big := jm_tb 998 (by decide +kernel) (by decide +kernel)
theorem lz_1007 : (Jvm.Cond.methodLink "PaidRestsLaw" (72 : Nat) ({ cls := "PaidRestsModel", name := "exchange", desc := "()I" } : Jvm.MethodName)) ∈ jm_big := jm_tb 1007 (by decide +kernel) (by decide +kernel)
theorem lz_1008 : (Jvm.Cond.instanceMethod ({ cls := "PaidRestsModel", name := "exchange", desc := "()I" } : Jvm.MethodName)) ∈ jm_big := jm_tb 1008 (by decide +kernel) (by decide +kernel)
theorem lz_1009 : (Jvm.Cond.selects "PaidRestsModel" ({ cls := "PaidRestsModel", name := "exchange", desc := "()I" } : Jvm.MethodName) ({ cls := "PaidRestsModel", name := "exchange", desc := "()I" } : Jvm.MethodName)) ∈ jm_big := jm_tb 1009 (by decide +kernel) (by decide +kernel)
theorem lz_1010 : (Jvm.Cond.code ({ cls := "PaidRestsModel", name := "exchange", desc := "()I" } : Jvm.MethodName) prog_11_method_41_code (6 : Nat) (Option.some Jvm.ClassFile.FieldType.int)) ∈ jm_big := jm_tb 1010 (by decide +kernel) (by decide +kernel)
theorem lz_1015 : (Jvm.Cond.methodLink "PaidRestsLaw" (76 : Nat) ({ cls := "PaidRestsModel", name := "leftOut", desc := "(II)I" } : Jvm.MethodName)) ∈ jm_big := jm_tb 1015 (by decide +kernel) (by decide +kernel)
theorem lz_1016 : (Jvm.Cond.instanceMethod ({ cls := "PaidRestsModel", name := "leftOut", desc := "(II)I" } : Jvm.MethodName)) ∈ jm_big := jm_tb 1016 (by decide +kernel) (by decide +kernel)
theorem lz_1017 : (Jvm.Cond.selects "PaidRestsModel" ({ cls := "PaidRestsModel", name := "leftOut", desc := "(II)I" } : Jvm.MethodName) ({ cls := "PaidRestsModel", name := "leftOut", desc := "(II)I" } : Jvm.MethodName)) ∈ jm_big := jm_tb 1017 (by decide +kernel) (by decide +kernel)
theorem lz_1018 : (Jvm.Cond.code ({ cls := "PaidRestsModel", name := "leftOut", desc := "(II)I" } : Jvm.MethodName) prog_11_method_42_code (7 : Nat) (Option.some Jvm.ClassFile.FieldType.int)) ∈ jm_big := jm_tb 1018 (by decide +kernel) (by decide +kernel)
theorem lz_1019 : (Jvm.Cond.methodLink "PaidRestsLaw" (80 : Nat) ({ cls := "PaidRestsModel", name := "bars", desc := "(I)I" } : Jvm.MethodName)) ∈ jm_big := jm_tb 1019 (by decide +kernel) (by decide +kernel)
theorem lz_1020 : (Jvm.Cond.instanceMethod ({ cls := "PaidRestsModel", name := "bars", desc := "(I)I" } : Jvm.MethodName)) ∈ jm_big := jm_tb 1020 (by decide +kernel) (by decide +kernel)
theorem lz_1021 : (Jvm.Cond.selects "PaidRestsModel" ({ cls := "PaidRestsModel", name := "bars", desc := "(I)I" } : Jvm.MethodName) ({ cls := "PaidRestsModel", name := "bars", desc := "(I)I" } : Jvm.MethodName)) ∈ jm_big := jm_tb 1021 (by decide +kernel) (by decide +kernel)
theorem lz_1022 : (Jvm.Cond.code ({ cls := "PaidRestsModel", name := "bars", desc := "(I)I" } : Jvm.MethodName) prog_11_method_44_code (6 : Nat) (Option.some Jvm.ClassFile.FieldType.int)) ∈ jm_big := jm_tb 1022 (by decide +kernel) (by decide +kernel)
theorem lz_1027 : (Jvm.Cond.methodLink "PaidRestsLaw" (84 : Nat) ({ cls := "PaidRestsModel", name := "heard", desc := "(I)I" } : Jvm.MethodName)) ∈ jm_big := jm_tb 1027 (by decide +kernel) (by decide +kernel)
theorem lz_1028 : (Jvm.Cond.instanceMethod ({ cls := "PaidRestsModel", name := "heard", desc := "(I)I" } : Jvm.MethodName)) ∈ jm_big := jm_tb 1028 (by decide +kernel) (by decide +kernel)
theorem lz_1029 : (Jvm.Cond.selects "PaidRestsModel" ({ cls := "PaidRestsModel", name := "heard", desc := "(I)I" } : Jvm.MethodName) ({ cls := "PaidRestsModel", name := "heard", desc := "(I)I" } : Jvm.MethodName)) ∈ jm_big := jm_tb 1029 (by decide +kernel) (by decide +kernel)
theorem lz_1030 : (Jvm.Cond.code ({ cls := "PaidRestsModel", name := "heard", desc := "(I)I" } : Jvm.MethodName) prog_11_method_46_code (2 : Nat) (Option.some Jvm.ClassFile.FieldType.int)) ∈ jm_big := jm_tb 1030 (by decide +kernel) (by decide +kernel)
theorem lz_1035 : (Jvm.Cond.methodLink "PaidRestsLaw" (88 : Nat) ({ cls := "PaidRestsModel", name := "rests", desc := "(I)I" } : Jvm.MethodName)) ∈ jm_big := jm_tb 1035 (by decide +kernel) (by decide +kernel)
theorem lz_1036 : (Jvm.Cond.instanceMethod ({ cls := "PaidRestsModel", name := "rests", desc := "(I)I" } : Jvm.MethodName)) ∈ jm_big := jm_tb 1036 (by decide +kernel) (by decide +kernel)
theorem lz_1037 : (Jvm.Cond.selects "PaidRestsModel" ({ cls := "PaidRestsModel", name := "rests", desc := "(I)I" } : Jvm.MethodName) ({ cls := "PaidRestsModel", name := "rests", desc := "(I)I" } : Jvm.MethodName)) ∈ jm_big := jm_tb 1037 (by decide +kernel) (by decide +kernel)
theorem lz_1038 : (Jvm.Cond.code ({ cls := "PaidRestsModel", name := "rests", desc := "(I)I" } : Jvm.MethodName) prog_11_method_47_code (2 : Nat) (Option.some Jvm.ClassFile.FieldType.int)) ∈ jm_big := jm_tb 1038 (by decide +kernel) (by decide +kernel)
theorem lz_1039 : (Jvm.Cond.methodLink "PaidRestsLaw" (92 : Nat) ({ cls := "PaidRestsModel", name := "first", desc := "()I" } : Jvm.MethodName)) ∈ jm_big := jm_tb 1039 (by decide +kernel) (by decide +kernel)
theorem lz_1040 : (Jvm.Cond.instanceMethod ({ cls := "PaidRestsModel", name := "first", desc := "()I" } : Jvm.MethodName)) ∈ jm_big := jm_tb 1040 (by decide +kernel) (by decide +kernel)
theorem lz_1041 : (Jvm.Cond.selects "PaidRestsModel" ({ cls := "PaidRestsModel", name := "first", desc := "()I" } : Jvm.MethodName) ({ cls := "PaidRestsModel", name := "first", desc := "()I" } : Jvm.MethodName)) ∈ jm_big := jm_tb 1041 (by decide +kernel) (by decide +kernel)
theorem lz_1042 : (Jvm.Cond.code ({ cls := "PaidRestsModel", name := "first", desc := "()I" } : Jvm.MethodName) prog_11_method_48_code (5 : Nat) (Option.some Jvm.ClassFile.FieldType.int)) ∈ jm_big := jm_tb 1042 (by decide +kernel) (by decide +kernel)
theorem lz_1043 : (Jvm.Cond.methodLink "PaidRestsLaw" (96 : Nat) ({ cls := "PaidRestsModel", name := "noted", desc := "(II)I" } : Jvm.MethodName)) ∈ jm_big := jm_tb 1043 (by decide +kernel) (by decide +kernel)
theorem lz_1044 : (Jvm.Cond.instanceMethod ({ cls := "PaidRestsModel", name := "noted", desc := "(II)I" } : Jvm.MethodName)) ∈ jm_big := jm_tb 1044 (by decide +kernel) (by decide +kernel)
theorem lz_1045 : (Jvm.Cond.selects "PaidRestsModel" ({ cls := "PaidRestsModel", name := "noted", desc := "(II)I" } : Jvm.MethodName) ({ cls := "PaidRestsModel", name := "noted", desc := "(II)I" } : Jvm.MethodName)) ∈ jm_big := jm_tb 1045 (by decide +kernel) (by decide +kernel)
theorem lz_1046 : (Jvm.Cond.code ({ cls := "PaidRestsModel", name := "noted", desc := "(II)I" } : Jvm.MethodName) prog_11_method_49_code (3 : Nat) (Option.some Jvm.ClassFile.FieldType.int)) ∈ jm_big := jm_tb 1046 (by decide +kernel) (by decide +kernel)
theorem lz_1047 : (Jvm.Cond.methodLink "PaidRestsLaw" (100 : Nat) ({ cls := "PaidRestsModel", name := "forget", desc := "()I" } : Jvm.MethodName)) ∈ jm_big := jm_tb 1047 (by decide +kernel) (by decide +kernel)
theorem lz_1048 : (Jvm.Cond.instanceMethod ({ cls := "PaidRestsModel", name := "forget", desc := "()I" } : Jvm.MethodName)) ∈ jm_big := jm_tb 1048 (by decide +kernel) (by decide +kernel)
theorem lz_1049 : (Jvm.Cond.selects "PaidRestsModel" ({ cls := "PaidRestsModel", name := "forget", desc := "()I" } : Jvm.MethodName) ({ cls := "PaidRestsModel", name := "forget", desc := "()I" } : Jvm.MethodName)) ∈ jm_big := jm_tb 1049 (by decide +kernel) (by decide +kernel)
theorem lz_1050 : (Jvm.Cond.code ({ cls := "PaidRestsModel", name := "forget", desc := "()I" } : Jvm.MethodName) prog_11_method_50_code (2 : Nat) (Option.some Jvm.ClassFile.FieldType.int)) ∈ jm_big := jm_tb 1050 (by decide +kernel) (by decide +kernel)
theorem lz_1051 : (Jvm.Cond.methodLink "PaidRestsLaw" (104 : Nat) ({ cls := "PaidRestsModel", name := "who", desc := "()I" } : Jvm.MethodName)) ∈ jm_big := jm_tb 1051 (by decide +kernel) (by decide +kernel)
theorem lz_1052 : (Jvm.Cond.instanceMethod ({ cls := "PaidRestsModel", name := "who", desc := "()I" } : Jvm.MethodName)) ∈ jm_big := jm_tb 1052 (by decide +kernel) (by decide +kernel)
theorem lz_1053 : (Jvm.Cond.selects "PaidRestsModel" ({ cls := "PaidRestsModel", name := "who", desc := "()I" } : Jvm.MethodName) ({ cls := "PaidRestsModel", name := "who", desc := "()I" } : Jvm.MethodName)) ∈ jm_big := jm_tb 1053 (by decide +kernel) (by decide +kernel)
theorem lz_1054 : (Jvm.Cond.code ({ cls := "PaidRestsModel", name := "who", desc := "()I" } : Jvm.MethodName) prog_11_method_52_code (3 : Nat) (Option.some Jvm.ClassFile.FieldType.int)) ∈ jm_big := jm_tb 1054 (by decide +kernel) (by decide +kernel)
theorem lz_1059 : (Jvm.Cond.methodLink "PaidRestsLaw" (108 : Nat) ({ cls := "PaidRestsModel", name := "broke", desc := "()I" } : Jvm.MethodName)) ∈ jm_big := jm_tb 1059 (by decide +kernel) (by decide +kernel)
theorem lz_1060 : (Jvm.Cond.instanceMethod ({ cls := "PaidRestsModel", name := "broke", desc := "()I" } : Jvm.MethodName)) ∈ jm_big := jm_tb 1060 (by decide +kernel) (by decide +kernel)
theorem lz_1061 : (Jvm.Cond.selects "PaidRestsModel" ({ cls := "PaidRestsModel", name := "broke", desc := "()I" } : Jvm.MethodName) ({ cls := "PaidRestsModel", name := "broke", desc := "()I" } : Jvm.MethodName)) ∈ jm_big := jm_tb 1061 (by decide +kernel) (by decide +kernel)
theorem lz_1062 : (Jvm.Cond.code ({ cls := "PaidRestsModel", name := "broke", desc := "()I" } : Jvm.MethodName) prog_11_method_54_code (2 : Nat) (Option.some Jvm.ClassFile.FieldType.int)) ∈ jm_big := jm_tb 1062 (by decide +kernel) (by decide +kernel)
theorem lz_1067 : (Jvm.Cond.methodLink "PaidRestsLaw" (112 : Nat) ({ cls := "PaidRestsModel", name := "rich", desc := "(I)I" } : Jvm.MethodName)) ∈ jm_big := jm_tb 1067 (by decide +kernel) (by decide +kernel)
theorem lz_1068 : (Jvm.Cond.instanceMethod ({ cls := "PaidRestsModel", name := "rich", desc := "(I)I" } : Jvm.MethodName)) ∈ jm_big := jm_tb 1068 (by decide +kernel) (by decide +kernel)
theorem lz_1069 : (Jvm.Cond.selects "PaidRestsModel" ({ cls := "PaidRestsModel", name := "rich", desc := "(I)I" } : Jvm.MethodName) ({ cls := "PaidRestsModel", name := "rich", desc := "(I)I" } : Jvm.MethodName)) ∈ jm_big := jm_tb 1069 (by decide +kernel) (by decide +kernel)
theorem lz_1070 : (Jvm.Cond.code ({ cls := "PaidRestsModel", name := "rich", desc := "(I)I" } : Jvm.MethodName) prog_11_method_55_code (3 : Nat) (Option.some Jvm.ClassFile.FieldType.int)) ∈ jm_big := jm_tb 1070 (by decide +kernel) (by decide +kernel)
theorem lz_1071 : (Jvm.Cond.methodLink "PaidRestsLaw" (117 : Nat) ({ cls := "PaidRestsModel", name := "odds", desc := "(IIII)I" } : Jvm.MethodName)) ∈ jm_big := jm_tb 1071 (by decide +kernel) (by decide +kernel)
theorem lz_1072 : (Jvm.Cond.instanceMethod ({ cls := "PaidRestsModel", name := "odds", desc := "(IIII)I" } : Jvm.MethodName)) ∈ jm_big := jm_tb 1072 (by decide +kernel) (by decide +kernel)
theorem lz_1073 : (Jvm.Cond.selects "PaidRestsModel" ({ cls := "PaidRestsModel", name := "odds", desc := "(IIII)I" } : Jvm.MethodName) ({ cls := "PaidRestsModel", name := "odds", desc := "(IIII)I" } : Jvm.MethodName)) ∈ jm_big := jm_tb 1073 (by decide +kernel) (by decide +kernel)
theorem lz_1074 : (Jvm.Cond.code ({ cls := "PaidRestsModel", name := "odds", desc := "(IIII)I" } : Jvm.MethodName) prog_11_method_57_code (11 : Nat) (Option.some Jvm.ClassFile.FieldType.int)) ∈ jm_big := jm_tb 1074 (by decide +kernel) (by decide +kernel)
theorem lz_1078 : (Jvm.Cond.methodLink "PaidRestsLaw" (121 : Nat) ({ cls := "PaidRestsModel", name := "rate", desc := "(II)I" } : Jvm.MethodName)) ∈ jm_big := jm_tb 1078 (by decide +kernel) (by decide +kernel)
theorem lz_1079 : (Jvm.Cond.instanceMethod ({ cls := "PaidRestsModel", name := "rate", desc := "(II)I" } : Jvm.MethodName)) ∈ jm_big := jm_tb 1079 (by decide +kernel) (by decide +kernel)
theorem lz_1080 : (Jvm.Cond.selects "PaidRestsModel" ({ cls := "PaidRestsModel", name := "rate", desc := "(II)I" } : Jvm.MethodName) ({ cls := "PaidRestsModel", name := "rate", desc := "(II)I" } : Jvm.MethodName)) ∈ jm_big := jm_tb 1080 (by decide +kernel) (by decide +kernel)
theorem lz_1081 : (Jvm.Cond.code ({ cls := "PaidRestsModel", name := "rate", desc := "(II)I" } : Jvm.MethodName) prog_11_method_58_code (4 : Nat) (Option.some Jvm.ClassFile.FieldType.int)) ∈ jm_big := jm_tb 1081 (by decide +kernel) (by decide +kernel)
theorem lz_1087 : (Jvm.Cond.methodLink "PaidRestsLaw" (125 : Nat) ({ cls := "PaidRestsModel", name := "keep", desc := "(I)I" } : Jvm.MethodName)) ∈ jm_big := jm_tb 1087 (by decide +kernel) (by decide +kernel)
theorem lz_1088 : (Jvm.Cond.instanceMethod ({ cls := "PaidRestsModel", name := "keep", desc := "(I)I" } : Jvm.MethodName)) ∈ jm_big := jm_tb 1088 (by decide +kernel) (by decide +kernel)
theorem lz_1089 : (Jvm.Cond.selects "PaidRestsModel" ({ cls := "PaidRestsModel", name := "keep", desc := "(I)I" } : Jvm.MethodName) ({ cls := "PaidRestsModel", name := "keep", desc := "(I)I" } : Jvm.MethodName)) ∈ jm_big := jm_tb 1089 (by decide +kernel) (by decide +kernel)
theorem lz_1090 : (Jvm.Cond.code ({ cls := "PaidRestsModel", name := "keep", desc := "(I)I" } : Jvm.MethodName) prog_11_method_59_code (3 : Nat) (Option.some Jvm.ClassFile.FieldType.int)) ∈ jm_big := jm_tb 1090 (by decide +kernel) (by decide +kernel)
theorem lz_1091 : (Jvm.Cond.methodLink "PaidRestsLaw" (129 : Nat) ({ cls := "PaidRestsModel", name := "back", desc := "(I)I" } : Jvm.MethodName)) ∈ jm_big := jm_tb 1091 (by decide +kernel) (by decide +kernel)
theorem lz_1092 : (Jvm.Cond.instanceMethod ({ cls := "PaidRestsModel", name := "back", desc := "(I)I" } : Jvm.MethodName)) ∈ jm_big := jm_tb 1092 (by decide +kernel) (by decide +kernel)
theorem lz_1093 : (Jvm.Cond.selects "PaidRestsModel" ({ cls := "PaidRestsModel", name := "back", desc := "(I)I" } : Jvm.MethodName) ({ cls := "PaidRestsModel", name := "back", desc := "(I)I" } : Jvm.MethodName)) ∈ jm_big := jm_tb 1093 (by decide +kernel) (by decide +kernel)
theorem lz_1094 : (Jvm.Cond.code ({ cls := "PaidRestsModel", name := "back", desc := "(I)I" } : Jvm.MethodName) prog_11_method_60_code (3 : Nat) (Option.some Jvm.ClassFile.FieldType.int)) ∈ jm_big := jm_tb 1094 (by decide +kernel) (by decide +kernel)
theorem lz_1095 : (Jvm.Cond.methodLink "PaidRestsLaw" (133 : Nat) ({ cls := "PaidRestsModel", name := "count", desc := "(I)I" } : Jvm.MethodName)) ∈ jm_big := jm_tb 1095 (by decide +kernel) (by decide +kernel)
theorem lz_1096 : (Jvm.Cond.instanceMethod ({ cls := "PaidRestsModel", name := "count", desc := "(I)I" } : Jvm.MethodName)) ∈ jm_big := jm_tb 1096 (by decide +kernel) (by decide +kernel)
theorem lz_1097 : (Jvm.Cond.selects "PaidRestsModel" ({ cls := "PaidRestsModel", name := "count", desc := "(I)I" } : Jvm.MethodName) ({ cls := "PaidRestsModel", name := "count", desc := "(I)I" } : Jvm.MethodName)) ∈ jm_big := jm_tb 1097 (by decide +kernel) (by decide +kernel)
theorem lz_1098 : (Jvm.Cond.code ({ cls := "PaidRestsModel", name := "count", desc := "(I)I" } : Jvm.MethodName) prog_11_method_61_code (2 : Nat) (Option.some Jvm.ClassFile.FieldType.int)) ∈ jm_big := jm_tb 1098 (by decide +kernel) (by decide +kernel)
theorem lz_1099 : (Jvm.Cond.methodLink "PaidRestsLaw" (138 : Nat) ({ cls := "PaidRestsModel", name := "trace", desc := "()J" } : Jvm.MethodName)) ∈ jm_big := jm_tb 1099 (by decide +kernel) (by decide +kernel)
theorem lz_1100 : (Jvm.Cond.instanceMethod ({ cls := "PaidRestsModel", name := "trace", desc := "()J" } : Jvm.MethodName)) ∈ jm_big := jm_tb 1100 (by decide +kernel) (by decide +kernel)
theorem lz_1101 : (Jvm.Cond.selects "PaidRestsModel" ({ cls := "PaidRestsModel", name := "trace", desc := "()J" } : Jvm.MethodName) ({ cls := "PaidRestsModel", name := "trace", desc := "()J" } : Jvm.MethodName)) ∈ jm_big := jm_tb 1101 (by decide +kernel) (by decide +kernel)
theorem lz_1102 : (Jvm.Cond.code ({ cls := "PaidRestsModel", name := "trace", desc := "()J" } : Jvm.MethodName) prog_11_method_62_code (1 : Nat) (Option.some Jvm.ClassFile.FieldType.long)) ∈ jm_big := jm_tb 1102 (by decide +kernel) (by decide +kernel)
theorem lf_X8_type : lf mX8_type 1 := ⟨lz_312, lz_1, ⟨by decide, by decide, by decide +kernel⟩, by decide, by decide⟩
theorem lf_X9_type : lf mX9_type 1 := ⟨lz_863, lz_10, ⟨by decide, by decide, by decide +kernel⟩, by decide, by decide⟩
theorem lf_X8_clear : lf mX8_clear 0 := ⟨lz_325, lz_1, ⟨by decide, by decide, by decide +kernel⟩, by decide, by decide⟩
theorem lf_X9_clear : lf mX9_clear 0 := ⟨lz_870, lz_10, ⟨by decide, by decide, by decide +kernel⟩, by decide, by decide⟩
theorem lf_X8_score : lf mX8_score 0 := ⟨lz_333, lz_1, ⟨by decide, by decide, by decide +kernel⟩, by decide, by decide⟩
theorem lf_X9_score : lf mX9_score 0 := ⟨lz_874, lz_10, ⟨by decide, by decide, by decide +kernel⟩, by decide, by decide⟩
theorem lf_X8_part : lf mX8_part 2 := ⟨lz_409, lz_1, ⟨by decide, by decide, by decide +kernel⟩, by decide, by decide⟩
theorem lf_X9_part : lf mX9_part 2 := ⟨lz_913, lz_10, ⟨by decide, by decide, by decide +kernel⟩, by decide, by decide⟩
theorem lf_X8_player : lf mX8_player 2 := ⟨lz_421, lz_1, ⟨by decide, by decide, by decide +kernel⟩, by decide, by decide⟩
theorem lf_X9_player : lf mX9_player 2 := ⟨lz_921, lz_10, ⟨by decide, by decide, by decide +kernel⟩, by decide, by decide⟩
theorem lf_X8_coins : lf mX8_coins 2 := ⟨lz_484, lz_1, ⟨by decide, by decide, by decide +kernel⟩, by decide, by decide⟩
theorem lf_X9_coins : lf mX9_coins 2 := ⟨lz_956, lz_10, ⟨by decide, by decide, by decide +kernel⟩, by decide, by decide⟩
theorem lf_X8_now : lf mX8_now 1 := ⟨lz_494, lz_1, ⟨by decide, by decide, by decide +kernel⟩, by decide, by decide⟩
theorem lf_X9_now : lf mX9_now 1 := ⟨lz_961, lz_10, ⟨by decide, by decide, by decide +kernel⟩, by decide, by decide⟩
theorem lf_X8_gives : lf mX8_gives 2 := ⟨lz_506, lz_1, ⟨by decide, by decide, by decide +kernel⟩, by decide, by decide⟩
theorem lf_X9_gives : lf mX9_gives 2 := ⟨lz_965, lz_10, ⟨by decide, by decide, by decide +kernel⟩, by decide, by decide⟩
theorem lf_X8_sleeps : lf mX8_sleeps 3 := ⟨lz_520, lz_1, ⟨by decide, by decide, by decide +kernel⟩, by decide, by decide⟩
theorem lf_X9_sleeps : lf mX9_sleeps 3 := ⟨lz_973, lz_10, ⟨by decide, by decide, by decide +kernel⟩, by decide, by decide⟩
theorem lf_X8_evening : lf mX8_evening 0 := ⟨lz_528, lz_1, ⟨by decide, by decide, by decide +kernel⟩, by decide, by decide⟩
theorem lf_X9_evening : lf mX9_evening 0 := ⟨lz_977, lz_10, ⟨by decide, by decide, by decide +kernel⟩, by decide, by decide⟩
theorem lf_X8_undo : lf mX8_undo 0 := ⟨lz_541, lz_1, ⟨by decide, by decide, by decide +kernel⟩, by decide, by decide⟩
theorem lf_X9_undo : lf mX9_undo 0 := ⟨lz_985, lz_10, ⟨by decide, by decide, by decide +kernel⟩, by decide, by decide⟩
theorem lf_X8_share : lf mX8_share 1 := ⟨lz_549, lz_1, ⟨by decide, by decide, by decide +kernel⟩, by decide, by decide⟩
theorem lf_X9_share : lf mX9_share 1 := ⟨lz_989, lz_10, ⟨by decide, by decide, by decide +kernel⟩, by decide, by decide⟩
theorem lf_X8_costs : lf mX8_costs 1 := ⟨lz_578, lz_1, ⟨by decide, by decide, by decide +kernel⟩, by decide, by decide⟩
theorem lf_X9_costs : lf mX9_costs 1 := ⟨lz_998, lz_10, ⟨by decide, by decide, by decide +kernel⟩, by decide, by decide⟩
theorem lf_X8_exchange : lf mX8_exchange 0 := ⟨lz_587, lz_1, ⟨by decide, by decide, by decide +kernel⟩, by decide, by decide⟩
theorem lf_X9_exchange : lf mX9_exchange 0 := ⟨lz_1010, lz_10, ⟨by decide, by decide, by decide +kernel⟩, by decide, by decide⟩
theorem lf_X8_leftOut : lf mX8_leftOut 2 := ⟨lz_599, lz_1, ⟨by decide, by decide, by decide +kernel⟩, by decide, by decide⟩
theorem lf_X9_leftOut : lf mX9_leftOut 2 := ⟨lz_1018, lz_10, ⟨by decide, by decide, by decide +kernel⟩, by decide, by decide⟩
theorem lf_X8_bars : lf mX8_bars 1 := ⟨lz_627, lz_1, ⟨by decide, by decide, by decide +kernel⟩, by decide, by decide⟩
theorem lf_X9_bars : lf mX9_bars 1 := ⟨lz_1022, lz_10, ⟨by decide, by decide, by decide +kernel⟩, by decide, by decide⟩
theorem lf_X8_heard : lf mX8_heard 1 := ⟨lz_640, lz_1, ⟨by decide, by decide, by decide +kernel⟩, by decide, by decide⟩
theorem lf_X9_heard : lf mX9_heard 1 := ⟨lz_1030, lz_10, ⟨by decide, by decide, by decide +kernel⟩, by decide, by decide⟩
theorem lf_X8_rests : lf mX8_rests 1 := ⟨lz_652, lz_1, ⟨by decide, by decide, by decide +kernel⟩, by decide, by decide⟩
theorem lf_X9_rests : lf mX9_rests 1 := ⟨lz_1038, lz_10, ⟨by decide, by decide, by decide +kernel⟩, by decide, by decide⟩
theorem lf_X8_first : lf mX8_first 0 := ⟨lz_656, lz_1, ⟨by decide, by decide, by decide +kernel⟩, by decide, by decide⟩
theorem lf_X9_first : lf mX9_first 0 := ⟨lz_1042, lz_10, ⟨by decide, by decide, by decide +kernel⟩, by decide, by decide⟩
theorem lf_X8_noted : lf mX8_noted 2 := ⟨lz_661, lz_1, ⟨by decide, by decide, by decide +kernel⟩, by decide, by decide⟩
theorem lf_X9_noted : lf mX9_noted 2 := ⟨lz_1046, lz_10, ⟨by decide, by decide, by decide +kernel⟩, by decide, by decide⟩
theorem lf_X8_forget : lf mX8_forget 0 := ⟨lz_665, lz_1, ⟨by decide, by decide, by decide +kernel⟩, by decide, by decide⟩
theorem lf_X9_forget : lf mX9_forget 0 := ⟨lz_1050, lz_10, ⟨by decide, by decide, by decide +kernel⟩, by decide, by decide⟩
theorem lf_X8_who : lf mX8_who 0 := ⟨lz_669, lz_1, ⟨by decide, by decide, by decide +kernel⟩, by decide, by decide⟩
theorem lf_X9_who : lf mX9_who 0 := ⟨lz_1054, lz_10, ⟨by decide, by decide, by decide +kernel⟩, by decide, by decide⟩
theorem lf_X8_broke : lf mX8_broke 0 := ⟨lz_677, lz_1, ⟨by decide, by decide, by decide +kernel⟩, by decide, by decide⟩
theorem lf_X9_broke : lf mX9_broke 0 := ⟨lz_1062, lz_10, ⟨by decide, by decide, by decide +kernel⟩, by decide, by decide⟩
theorem lf_X8_rich : lf mX8_rich 1 := ⟨lz_702, lz_1, ⟨by decide, by decide, by decide +kernel⟩, by decide, by decide⟩
theorem lf_X9_rich : lf mX9_rich 1 := ⟨lz_1070, lz_10, ⟨by decide, by decide, by decide +kernel⟩, by decide, by decide⟩
theorem lf_X8_odds : lf mX8_odds 4 := ⟨lz_710, lz_1, ⟨by decide, by decide, by decide +kernel⟩, by decide, by decide⟩
theorem lf_X9_odds : lf mX9_odds 4 := ⟨lz_1074, lz_10, ⟨by decide, by decide, by decide +kernel⟩, by decide, by decide⟩
theorem lf_X8_rate : lf mX8_rate 2 := ⟨lz_721, lz_1, ⟨by decide, by decide, by decide +kernel⟩, by decide, by decide⟩
theorem lf_X9_rate : lf mX9_rate 2 := ⟨lz_1081, lz_10, ⟨by decide, by decide, by decide +kernel⟩, by decide, by decide⟩
theorem lf_X8_keep : lf mX8_keep 1 := ⟨lz_754, lz_1, ⟨by decide, by decide, by decide +kernel⟩, by decide, by decide⟩
theorem lf_X9_keep : lf mX9_keep 1 := ⟨lz_1090, lz_10, ⟨by decide, by decide, by decide +kernel⟩, by decide, by decide⟩
theorem lf_X8_back : lf mX8_back 1 := ⟨lz_759, lz_1, ⟨by decide, by decide, by decide +kernel⟩, by decide, by decide⟩
theorem lf_X9_back : lf mX9_back 1 := ⟨lz_1094, lz_10, ⟨by decide, by decide, by decide +kernel⟩, by decide, by decide⟩
theorem lf_X8_count : lf mX8_count 1 := ⟨lz_763, lz_1, ⟨by decide, by decide, by decide +kernel⟩, by decide, by decide⟩
theorem lf_X9_count : lf mX9_count 1 := ⟨lz_1098, lz_10, ⟨by decide, by decide, by decide +kernel⟩, by decide, by decide⟩
theorem lf_X8_trace : lf mX8_trace 0 := ⟨lz_767, lz_1, ⟨by decide, by decide, by decide +kernel⟩, by decide, by decide⟩
theorem lf_X9_trace : lf mX9_trace 0 := ⟨lz_1102, lz_10, ⟨by decide, by decide, by decide +kernel⟩, by decide, by decide⟩
section LCASES
variable {x : jm_X} {p : Program} {e : Env} {s : State} {m : MethodId} {below : List Frame} {meth : Method} {c : Code} {b L kc ks i : Nat} {xs : Nat → Int32} {μ : jm_M} {a : jA}
theorem l_type (hC : LC x p s m meth c b L xs) (hL : L ≤ 320) (hi : i + 5 ≤ L) (hk1 : kc ≤ 600000) (hk2 : ks ≤ 7302249) (hW : WA a) (h8 : IC a μ) (h9 : IM a μ) (kk : ∀ a' ν, WA a' → IC a' ν → IM a' ν → LW x p e s m below meth c b kc ks 879 (lvL x b i) [] ν) : LW x p e s m below meth c b kc ks 168 (lvL x b i) [] μ := by
  obtain ⟨r, a', hW', s8, s9⟩ : stp x a mX8_type mX9_type [.inl (xs (i + 1))] := step_type hW (xs (i + 1))
  cases r with
  | inr z => exact z.elim
  | inl v =>
    refine lr_aload (i := 1) hC dL_law_168 rfl (List.mem_of_getElem? (i := 1) rfl) ?_
    refine lr_arg (j := 1) hC hL (by omega) dL_law_169 dL_law_170 dL_law_171 dL_law_172 dL_law_173 rfl rfl (by decide) ?_
    refine lr_call (as := [.inl (xs (i + 1))]) (st := []) hC jc_8 dL_law_174 lf_X8_type lz_309 lz_310 lz_311 hk1 hk2 (by decide) rfl (Nat.le_of_ble_eq_true rfl) (s8 μ _ h8 (fun ν i8 f8 => ?_))
    show LW x p e s m below meth c b kc ks 177 (lvL x b i) [.int v] ν
    refine lr_aload (i := 2) hC dL_law_177 rfl (List.mem_of_getElem? (i := 2) rfl) ?_
    refine lr_arg (j := 1) hC hL (by omega) dL_law_178 dL_law_179 dL_law_180 dL_law_181 dL_law_182 rfl rfl (by decide) ?_
    refine lr_call (as := [.inl (xs (i + 1))]) (st := [.int v]) hC jc_9 dL_law_183 lf_X9_type lz_860 lz_861 lz_862 hk1 hk2 (by decide) rfl (Nat.le_of_ble_eq_true rfl) (s9 ν _ (IM_same f8 h9) (fun ν2 i9 f9 => ?_))
    show LW x p e s m below meth c b kc ks 186 (lvL x b i) [.int v, .int v] ν2
    refine lr_eq (tgt := 879) hC dL_law_186 (by decide) ?_
    exact kk a' ν2 hW' (IC_same f9 i8) i9
theorem l_clear (hC : LC x p s m meth c b L xs) (hL : L ≤ 320) (hi : i + 5 ≤ L) (hk1 : kc ≤ 600000) (hk2 : ks ≤ 7302249) (hW : WA a) (h8 : IC a μ) (h9 : IM a μ) (kk : ∀ a' ν, WA a' → IC a' ν → IM a' ν → LW x p e s m below meth c b kc ks 879 (lvL x b i) [] ν) : LW x p e s m below meth c b kc ks 191 (lvL x b i) [] μ := by
  obtain ⟨r, a', hW', s8, s9⟩ : stp x a mX8_clear mX9_clear [] := step_clear hW
  cases r with
  | inr z => exact z.elim
  | inl v =>
    refine lr_aload (i := 1) hC dL_law_191 rfl (List.mem_of_getElem? (i := 1) rfl) ?_
    refine lr_call (as := []) (st := []) hC jc_8 dL_law_192 lf_X8_clear lz_322 lz_323 lz_324 hk1 hk2 (by decide) rfl (Nat.le_of_ble_eq_true rfl) (s8 μ _ h8 (fun ν i8 f8 => ?_))
    show LW x p e s m below meth c b kc ks 195 (lvL x b i) [.int v] ν
    refine lr_aload (i := 2) hC dL_law_195 rfl (List.mem_of_getElem? (i := 2) rfl) ?_
    refine lr_call (as := []) (st := [.int v]) hC jc_9 dL_law_196 lf_X9_clear lz_867 lz_868 lz_869 hk1 hk2 (by decide) rfl (Nat.le_of_ble_eq_true rfl) (s9 ν _ (IM_same f8 h9) (fun ν2 i9 f9 => ?_))
    show LW x p e s m below meth c b kc ks 199 (lvL x b i) [.int v, .int v] ν2
    refine lr_eq (tgt := 879) hC dL_law_199 (by decide) ?_
    exact kk a' ν2 hW' (IC_same f9 i8) i9
theorem l_score (hC : LC x p s m meth c b L xs) (hL : L ≤ 320) (hi : i + 5 ≤ L) (hk1 : kc ≤ 600000) (hk2 : ks ≤ 7302249) (hW : WA a) (h8 : IC a μ) (h9 : IM a μ) (kk : ∀ a' ν, WA a' → IC a' ν → IM a' ν → LW x p e s m below meth c b kc ks 879 (lvL x b i) [] ν) : LW x p e s m below meth c b kc ks 204 (lvL x b i) [] μ := by
  obtain ⟨r, a', hW', s8, s9⟩ : stp x a mX8_score mX9_score [] := step_score hW
  cases r with
  | inr z => exact z.elim
  | inl v =>
    refine lr_aload (i := 1) hC dL_law_204 rfl (List.mem_of_getElem? (i := 1) rfl) ?_
    refine lr_call (as := []) (st := []) hC jc_8 dL_law_205 lf_X8_score lz_330 lz_331 lz_332 hk1 hk2 (by decide) rfl (Nat.le_of_ble_eq_true rfl) (s8 μ _ h8 (fun ν i8 f8 => ?_))
    show LW x p e s m below meth c b kc ks 208 (lvL x b i) [.int v] ν
    refine lr_aload (i := 2) hC dL_law_208 rfl (List.mem_of_getElem? (i := 2) rfl) ?_
    refine lr_call (as := []) (st := [.int v]) hC jc_9 dL_law_209 lf_X9_score lz_871 lz_872 lz_873 hk1 hk2 (by decide) rfl (Nat.le_of_ble_eq_true rfl) (s9 ν _ (IM_same f8 h9) (fun ν2 i9 f9 => ?_))
    show LW x p e s m below meth c b kc ks 212 (lvL x b i) [.int v, .int v] ν2
    refine lr_eq (tgt := 879) hC dL_law_212 (by decide) ?_
    exact kk a' ν2 hW' (IC_same f9 i8) i9
theorem l_part (hC : LC x p s m meth c b L xs) (hL : L ≤ 320) (hi : i + 5 ≤ L) (hk1 : kc ≤ 600000) (hk2 : ks ≤ 7302249) (hW : WA a) (h8 : IC a μ) (h9 : IM a μ) (kk : ∀ a' ν, WA a' → IC a' ν → IM a' ν → LW x p e s m below meth c b kc ks 879 (lvL x b i) [] ν) : LW x p e s m below meth c b kc ks 217 (lvL x b i) [] μ := by
  obtain ⟨r, a', hW', s8, s9⟩ : stp x a mX8_part mX9_part [.inl (xs (i + 1)), .inl (xs (i + 2))] := step_part hW (xs (i + 1)) (xs (i + 2))
  cases r with
  | inr z => exact z.elim
  | inl v =>
    refine lr_aload (i := 1) hC dL_law_217 rfl (List.mem_of_getElem? (i := 1) rfl) ?_
    refine lr_arg (j := 1) hC hL (by omega) dL_law_218 dL_law_219 dL_law_220 dL_law_221 dL_law_222 rfl rfl (by decide) ?_
    refine lr_arg (j := 2) hC hL (by omega) dL_law_223 dL_law_224 dL_law_225 dL_law_226 dL_law_227 rfl rfl (by decide) ?_
    refine lr_call (as := [.inl (xs (i + 1)), .inl (xs (i + 2))]) (st := []) hC jc_8 dL_law_228 lf_X8_part lz_406 lz_407 lz_408 hk1 hk2 (by decide) rfl (Nat.le_of_ble_eq_true rfl) (s8 μ _ h8 (fun ν i8 f8 => ?_))
    show LW x p e s m below meth c b kc ks 231 (lvL x b i) [.int v] ν
    refine lr_aload (i := 2) hC dL_law_231 rfl (List.mem_of_getElem? (i := 2) rfl) ?_
    refine lr_arg (j := 1) hC hL (by omega) dL_law_232 dL_law_233 dL_law_234 dL_law_235 dL_law_236 rfl rfl (by decide) ?_
    refine lr_arg (j := 2) hC hL (by omega) dL_law_237 dL_law_238 dL_law_239 dL_law_240 dL_law_241 rfl rfl (by decide) ?_
    refine lr_call (as := [.inl (xs (i + 1)), .inl (xs (i + 2))]) (st := [.int v]) hC jc_9 dL_law_242 lf_X9_part lz_910 lz_911 lz_912 hk1 hk2 (by decide) rfl (Nat.le_of_ble_eq_true rfl) (s9 ν _ (IM_same f8 h9) (fun ν2 i9 f9 => ?_))
    show LW x p e s m below meth c b kc ks 245 (lvL x b i) [.int v, .int v] ν2
    refine lr_eq (tgt := 879) hC dL_law_245 (by decide) ?_
    exact kk a' ν2 hW' (IC_same f9 i8) i9
theorem l_player (hC : LC x p s m meth c b L xs) (hL : L ≤ 320) (hi : i + 5 ≤ L) (hk1 : kc ≤ 600000) (hk2 : ks ≤ 7302249) (hW : WA a) (h8 : IC a μ) (h9 : IM a μ) (kk : ∀ a' ν, WA a' → IC a' ν → IM a' ν → LW x p e s m below meth c b kc ks 879 (lvL x b i) [] ν) : LW x p e s m below meth c b kc ks 250 (lvL x b i) [] μ := by
  obtain ⟨r, a', hW', s8, s9⟩ : stp x a mX8_player mX9_player [.inl (xs (i + 1)), .inl (xs (i + 2))] := step_player hW (xs (i + 1)) (xs (i + 2))
  cases r with
  | inr z => exact z.elim
  | inl v =>
    refine lr_aload (i := 1) hC dL_law_250 rfl (List.mem_of_getElem? (i := 1) rfl) ?_
    refine lr_arg (j := 1) hC hL (by omega) dL_law_251 dL_law_252 dL_law_253 dL_law_254 dL_law_255 rfl rfl (by decide) ?_
    refine lr_arg (j := 2) hC hL (by omega) dL_law_256 dL_law_257 dL_law_258 dL_law_259 dL_law_260 rfl rfl (by decide) ?_
    refine lr_call (as := [.inl (xs (i + 1)), .inl (xs (i + 2))]) (st := []) hC jc_8 dL_law_261 lf_X8_player lz_418 lz_419 lz_420 hk1 hk2 (by decide) rfl (Nat.le_of_ble_eq_true rfl) (s8 μ _ h8 (fun ν i8 f8 => ?_))
    show LW x p e s m below meth c b kc ks 264 (lvL x b i) [.int v] ν
    refine lr_aload (i := 2) hC dL_law_264 rfl (List.mem_of_getElem? (i := 2) rfl) ?_
    refine lr_arg (j := 1) hC hL (by omega) dL_law_265 dL_law_266 dL_law_267 dL_law_268 dL_law_269 rfl rfl (by decide) ?_
    refine lr_arg (j := 2) hC hL (by omega) dL_law_270 dL_law_271 dL_law_272 dL_law_273 dL_law_274 rfl rfl (by decide) ?_
    refine lr_call (as := [.inl (xs (i + 1)), .inl (xs (i + 2))]) (st := [.int v]) hC jc_9 dL_law_275 lf_X9_player lz_918 lz_919 lz_920 hk1 hk2 (by decide) rfl (Nat.le_of_ble_eq_true rfl) (s9 ν _ (IM_same f8 h9) (fun ν2 i9 f9 => ?_))
    show LW x p e s m below meth c b kc ks 278 (lvL x b i) [.int v, .int v] ν2
    refine lr_eq (tgt := 879) hC dL_law_278 (by decide) ?_
    exact kk a' ν2 hW' (IC_same f9 i8) i9
theorem l_coins (hC : LC x p s m meth c b L xs) (hL : L ≤ 320) (hi : i + 5 ≤ L) (hk1 : kc ≤ 600000) (hk2 : ks ≤ 7302249) (hW : WA a) (h8 : IC a μ) (h9 : IM a μ) (kk : ∀ a' ν, WA a' → IC a' ν → IM a' ν → LW x p e s m below meth c b kc ks 879 (lvL x b i) [] ν) : LW x p e s m below meth c b kc ks 283 (lvL x b i) [] μ := by
  obtain ⟨r, a', hW', s8, s9⟩ : stp x a mX8_coins mX9_coins [.inl (xs (i + 1)), .inl (xs (i + 2))] := step_coins hW (xs (i + 1)) (xs (i + 2))
  cases r with
  | inr z => exact z.elim
  | inl v =>
    refine lr_aload (i := 1) hC dL_law_283 rfl (List.mem_of_getElem? (i := 1) rfl) ?_
    refine lr_arg (j := 1) hC hL (by omega) dL_law_284 dL_law_285 dL_law_286 dL_law_287 dL_law_288 rfl rfl (by decide) ?_
    refine lr_arg (j := 2) hC hL (by omega) dL_law_289 dL_law_290 dL_law_291 dL_law_292 dL_law_293 rfl rfl (by decide) ?_
    refine lr_call (as := [.inl (xs (i + 1)), .inl (xs (i + 2))]) (st := []) hC jc_8 dL_law_294 lf_X8_coins lz_481 lz_482 lz_483 hk1 hk2 (by decide) rfl (Nat.le_of_ble_eq_true rfl) (s8 μ _ h8 (fun ν i8 f8 => ?_))
    show LW x p e s m below meth c b kc ks 297 (lvL x b i) [.int v] ν
    refine lr_aload (i := 2) hC dL_law_297 rfl (List.mem_of_getElem? (i := 2) rfl) ?_
    refine lr_arg (j := 1) hC hL (by omega) dL_law_298 dL_law_299 dL_law_300 dL_law_301 dL_law_302 rfl rfl (by decide) ?_
    refine lr_arg (j := 2) hC hL (by omega) dL_law_303 dL_law_304 dL_law_305 dL_law_306 dL_law_307 rfl rfl (by decide) ?_
    refine lr_call (as := [.inl (xs (i + 1)), .inl (xs (i + 2))]) (st := [.int v]) hC jc_9 dL_law_308 lf_X9_coins lz_953 lz_954 lz_955 hk1 hk2 (by decide) rfl (Nat.le_of_ble_eq_true rfl) (s9 ν _ (IM_same f8 h9) (fun ν2 i9 f9 => ?_))
    show LW x p e s m below meth c b kc ks 311 (lvL x b i) [.int v, .int v] ν2
    refine lr_eq (tgt := 879) hC dL_law_311 (by decide) ?_
    exact kk a' ν2 hW' (IC_same f9 i8) i9
theorem l_now (hC : LC x p s m meth c b L xs) (hL : L ≤ 320) (hi : i + 5 ≤ L) (hk1 : kc ≤ 600000) (hk2 : ks ≤ 7302249) (hW : WA a) (h8 : IC a μ) (h9 : IM a μ) (kk : ∀ a' ν, WA a' → IC a' ν → IM a' ν → LW x p e s m below meth c b kc ks 879 (lvL x b i) [] ν) : LW x p e s m below meth c b kc ks 316 (lvL x b i) [] μ := by
  obtain ⟨r, a', hW', s8, s9⟩ : stp x a mX8_now mX9_now [.inl (xs (i + 1))] := step_now hW (xs (i + 1))
  cases r with
  | inr z => exact z.elim
  | inl v =>
    refine lr_aload (i := 1) hC dL_law_316 rfl (List.mem_of_getElem? (i := 1) rfl) ?_
    refine lr_arg (j := 1) hC hL (by omega) dL_law_317 dL_law_318 dL_law_319 dL_law_320 dL_law_321 rfl rfl (by decide) ?_
    refine lr_call (as := [.inl (xs (i + 1))]) (st := []) hC jc_8 dL_law_322 lf_X8_now lz_491 lz_492 lz_493 hk1 hk2 (by decide) rfl (Nat.le_of_ble_eq_true rfl) (s8 μ _ h8 (fun ν i8 f8 => ?_))
    show LW x p e s m below meth c b kc ks 325 (lvL x b i) [.int v] ν
    refine lr_aload (i := 2) hC dL_law_325 rfl (List.mem_of_getElem? (i := 2) rfl) ?_
    refine lr_arg (j := 1) hC hL (by omega) dL_law_326 dL_law_327 dL_law_328 dL_law_329 dL_law_330 rfl rfl (by decide) ?_
    refine lr_call (as := [.inl (xs (i + 1))]) (st := [.int v]) hC jc_9 dL_law_331 lf_X9_now lz_958 lz_959 lz_960 hk1 hk2 (by decide) rfl (Nat.le_of_ble_eq_true rfl) (s9 ν _ (IM_same f8 h9) (fun ν2 i9 f9 => ?_))
    show LW x p e s m below meth c b kc ks 334 (lvL x b i) [.int v, .int v] ν2
    refine lr_eq (tgt := 879) hC dL_law_334 (by decide) ?_
    exact kk a' ν2 hW' (IC_same f9 i8) i9
theorem l_gives (hC : LC x p s m meth c b L xs) (hL : L ≤ 320) (hi : i + 5 ≤ L) (hk1 : kc ≤ 600000) (hk2 : ks ≤ 7302249) (hW : WA a) (h8 : IC a μ) (h9 : IM a μ) (kk : ∀ a' ν, WA a' → IC a' ν → IM a' ν → LW x p e s m below meth c b kc ks 879 (lvL x b i) [] ν) : LW x p e s m below meth c b kc ks 339 (lvL x b i) [] μ := by
  obtain ⟨r, a', hW', s8, s9⟩ : stp x a mX8_gives mX9_gives [.inl (xs (i + 1)), .inl (xs (i + 2))] := step_gives hW (xs (i + 1)) (xs (i + 2))
  cases r with
  | inr z => exact z.elim
  | inl v =>
    refine lr_aload (i := 1) hC dL_law_339 rfl (List.mem_of_getElem? (i := 1) rfl) ?_
    refine lr_arg (j := 1) hC hL (by omega) dL_law_340 dL_law_341 dL_law_342 dL_law_343 dL_law_344 rfl rfl (by decide) ?_
    refine lr_arg (j := 2) hC hL (by omega) dL_law_345 dL_law_346 dL_law_347 dL_law_348 dL_law_349 rfl rfl (by decide) ?_
    refine lr_call (as := [.inl (xs (i + 1)), .inl (xs (i + 2))]) (st := []) hC jc_8 dL_law_350 lf_X8_gives lz_503 lz_504 lz_505 hk1 hk2 (by decide) rfl (Nat.le_of_ble_eq_true rfl) (s8 μ _ h8 (fun ν i8 f8 => ?_))
    show LW x p e s m below meth c b kc ks 353 (lvL x b i) [.int v] ν
    refine lr_aload (i := 2) hC dL_law_353 rfl (List.mem_of_getElem? (i := 2) rfl) ?_
    refine lr_arg (j := 1) hC hL (by omega) dL_law_354 dL_law_355 dL_law_356 dL_law_357 dL_law_358 rfl rfl (by decide) ?_
    refine lr_arg (j := 2) hC hL (by omega) dL_law_359 dL_law_360 dL_law_361 dL_law_362 dL_law_363 rfl rfl (by decide) ?_
    refine lr_call (as := [.inl (xs (i + 1)), .inl (xs (i + 2))]) (st := [.int v]) hC jc_9 dL_law_364 lf_X9_gives lz_962 lz_963 lz_964 hk1 hk2 (by decide) rfl (Nat.le_of_ble_eq_true rfl) (s9 ν _ (IM_same f8 h9) (fun ν2 i9 f9 => ?_))
    show LW x p e s m below meth c b kc ks 367 (lvL x b i) [.int v, .int v] ν2
    refine lr_eq (tgt := 879) hC dL_law_367 (by decide) ?_
    exact kk a' ν2 hW' (IC_same f9 i8) i9
theorem l_sleeps (hC : LC x p s m meth c b L xs) (hL : L ≤ 320) (hi : i + 5 ≤ L) (hk1 : kc ≤ 600000) (hk2 : ks ≤ 7302249) (hW : WA a) (h8 : IC a μ) (h9 : IM a μ) (kk : ∀ a' ν, WA a' → IC a' ν → IM a' ν → LW x p e s m below meth c b kc ks 879 (lvL x b i) [] ν) : LW x p e s m below meth c b kc ks 372 (lvL x b i) [] μ := by
  obtain ⟨r, a', hW', s8, s9⟩ : stp x a mX8_sleeps mX9_sleeps [.inl (xs (i + 1)), .inl (xs (i + 2)), .inl (xs (i + 3))] := step_sleeps hW (xs (i + 1)) (xs (i + 2)) (xs (i + 3))
  cases r with
  | inr z => exact z.elim
  | inl v =>
    refine lr_aload (i := 1) hC dL_law_372 rfl (List.mem_of_getElem? (i := 1) rfl) ?_
    refine lr_arg (j := 1) hC hL (by omega) dL_law_373 dL_law_374 dL_law_375 dL_law_376 dL_law_377 rfl rfl (by decide) ?_
    refine lr_arg (j := 2) hC hL (by omega) dL_law_378 dL_law_379 dL_law_380 dL_law_381 dL_law_382 rfl rfl (by decide) ?_
    refine lr_arg (j := 3) hC hL (by omega) dL_law_383 dL_law_384 dL_law_385 dL_law_386 dL_law_387 rfl rfl (by decide) ?_
    refine lr_call (as := [.inl (xs (i + 1)), .inl (xs (i + 2)), .inl (xs (i + 3))]) (st := []) hC jc_8 dL_law_388 lf_X8_sleeps lz_517 lz_518 lz_519 hk1 hk2 (by decide) rfl (Nat.le_of_ble_eq_true rfl) (s8 μ _ h8 (fun ν i8 f8 => ?_))
    show LW x p e s m below meth c b kc ks 391 (lvL x b i) [.int v] ν
    refine lr_aload (i := 2) hC dL_law_391 rfl (List.mem_of_getElem? (i := 2) rfl) ?_
    refine lr_arg (j := 1) hC hL (by omega) dL_law_392 dL_law_393 dL_law_394 dL_law_395 dL_law_396 rfl rfl (by decide) ?_
    refine lr_arg (j := 2) hC hL (by omega) dL_law_397 dL_law_398 dL_law_399 dL_law_400 dL_law_401 rfl rfl (by decide) ?_
    refine lr_arg (j := 3) hC hL (by omega) dL_law_402 dL_law_403 dL_law_404 dL_law_405 dL_law_406 rfl rfl (by decide) ?_
    refine lr_call (as := [.inl (xs (i + 1)), .inl (xs (i + 2)), .inl (xs (i + 3))]) (st := [.int v]) hC jc_9 dL_law_407 lf_X9_sleeps lz_970 lz_971 lz_972 hk1 hk2 (by decide) rfl (Nat.le_of_ble_eq_true rfl) (s9 ν _ (IM_same f8 h9) (fun ν2 i9 f9 => ?_))
    show LW x p e s m below meth c b kc ks 410 (lvL x b i) [.int v, .int v] ν2
    refine lr_eq (tgt := 879) hC dL_law_410 (by decide) ?_
    exact kk a' ν2 hW' (IC_same f9 i8) i9
theorem l_evening (hC : LC x p s m meth c b L xs) (hL : L ≤ 320) (hi : i + 5 ≤ L) (hk1 : kc ≤ 600000) (hk2 : ks ≤ 7302249) (hW : WA a) (h8 : IC a μ) (h9 : IM a μ) (kk : ∀ a' ν, WA a' → IC a' ν → IM a' ν → LW x p e s m below meth c b kc ks 879 (lvL x b i) [] ν) : LW x p e s m below meth c b kc ks 415 (lvL x b i) [] μ := by
  obtain ⟨r, a', hW', s8, s9⟩ : stp x a mX8_evening mX9_evening [] := step_evening hW
  cases r with
  | inr z => exact z.elim
  | inl v =>
    refine lr_aload (i := 1) hC dL_law_415 rfl (List.mem_of_getElem? (i := 1) rfl) ?_
    refine lr_call (as := []) (st := []) hC jc_8 dL_law_416 lf_X8_evening lz_525 lz_526 lz_527 hk1 hk2 (by decide) rfl (Nat.le_of_ble_eq_true rfl) (s8 μ _ h8 (fun ν i8 f8 => ?_))
    show LW x p e s m below meth c b kc ks 419 (lvL x b i) [.int v] ν
    refine lr_aload (i := 2) hC dL_law_419 rfl (List.mem_of_getElem? (i := 2) rfl) ?_
    refine lr_call (as := []) (st := [.int v]) hC jc_9 dL_law_420 lf_X9_evening lz_974 lz_975 lz_976 hk1 hk2 (by decide) rfl (Nat.le_of_ble_eq_true rfl) (s9 ν _ (IM_same f8 h9) (fun ν2 i9 f9 => ?_))
    show LW x p e s m below meth c b kc ks 423 (lvL x b i) [.int v, .int v] ν2
    refine lr_eq (tgt := 879) hC dL_law_423 (by decide) ?_
    exact kk a' ν2 hW' (IC_same f9 i8) i9
theorem l_undo (hC : LC x p s m meth c b L xs) (hL : L ≤ 320) (hi : i + 5 ≤ L) (hk1 : kc ≤ 600000) (hk2 : ks ≤ 7302249) (hW : WA a) (h8 : IC a μ) (h9 : IM a μ) (kk : ∀ a' ν, WA a' → IC a' ν → IM a' ν → LW x p e s m below meth c b kc ks 879 (lvL x b i) [] ν) : LW x p e s m below meth c b kc ks 428 (lvL x b i) [] μ := by
  obtain ⟨r, a', hW', s8, s9⟩ : stp x a mX8_undo mX9_undo [] := step_undo hW
  cases r with
  | inr z => exact z.elim
  | inl v =>
    refine lr_aload (i := 1) hC dL_law_428 rfl (List.mem_of_getElem? (i := 1) rfl) ?_
    refine lr_call (as := []) (st := []) hC jc_8 dL_law_429 lf_X8_undo lz_538 lz_539 lz_540 hk1 hk2 (by decide) rfl (Nat.le_of_ble_eq_true rfl) (s8 μ _ h8 (fun ν i8 f8 => ?_))
    show LW x p e s m below meth c b kc ks 432 (lvL x b i) [.int v] ν
    refine lr_aload (i := 2) hC dL_law_432 rfl (List.mem_of_getElem? (i := 2) rfl) ?_
    refine lr_call (as := []) (st := [.int v]) hC jc_9 dL_law_433 lf_X9_undo lz_982 lz_983 lz_984 hk1 hk2 (by decide) rfl (Nat.le_of_ble_eq_true rfl) (s9 ν _ (IM_same f8 h9) (fun ν2 i9 f9 => ?_))
    show LW x p e s m below meth c b kc ks 436 (lvL x b i) [.int v, .int v] ν2
    refine lr_eq (tgt := 879) hC dL_law_436 (by decide) ?_
    exact kk a' ν2 hW' (IC_same f9 i8) i9
theorem l_share (hC : LC x p s m meth c b L xs) (hL : L ≤ 320) (hi : i + 5 ≤ L) (hk1 : kc ≤ 600000) (hk2 : ks ≤ 7302249) (hW : WA a) (h8 : IC a μ) (h9 : IM a μ) (kk : ∀ a' ν, WA a' → IC a' ν → IM a' ν → LW x p e s m below meth c b kc ks 879 (lvL x b i) [] ν) : LW x p e s m below meth c b kc ks 441 (lvL x b i) [] μ := by
  obtain ⟨r, a', hW', s8, s9⟩ : stp x a mX8_share mX9_share [.inl (xs (i + 1))] := step_share hW
  cases r with
  | inr z => exact z.elim
  | inl v =>
    refine lr_aload (i := 1) hC dL_law_441 rfl (List.mem_of_getElem? (i := 1) rfl) ?_
    refine lr_arg (j := 1) hC hL (by omega) dL_law_442 dL_law_443 dL_law_444 dL_law_445 dL_law_446 rfl rfl (by decide) ?_
    refine lr_call (as := [.inl (xs (i + 1))]) (st := []) hC jc_8 dL_law_447 lf_X8_share lz_546 lz_547 lz_548 hk1 hk2 (by decide) rfl (Nat.le_of_ble_eq_true rfl) (s8 μ _ h8 (fun ν i8 f8 => ?_))
    show LW x p e s m below meth c b kc ks 450 (lvL x b i) [.int v] ν
    refine lr_aload (i := 2) hC dL_law_450 rfl (List.mem_of_getElem? (i := 2) rfl) ?_
    refine lr_arg (j := 1) hC hL (by omega) dL_law_451 dL_law_452 dL_law_453 dL_law_454 dL_law_455 rfl rfl (by decide) ?_
    refine lr_call (as := [.inl (xs (i + 1))]) (st := [.int v]) hC jc_9 dL_law_456 lf_X9_share lz_986 lz_987 lz_988 hk1 hk2 (by decide) rfl (Nat.le_of_ble_eq_true rfl) (s9 ν _ (IM_same f8 h9) (fun ν2 i9 f9 => ?_))
    show LW x p e s m below meth c b kc ks 459 (lvL x b i) [.int v, .int v] ν2
    refine lr_eq (tgt := 879) hC dL_law_459 (by decide) ?_
    exact kk a' ν2 hW' (IC_same f9 i8) i9
theorem l_costs (hC : LC x p s m meth c b L xs) (hL : L ≤ 320) (hi : i + 5 ≤ L) (hk1 : kc ≤ 600000) (hk2 : ks ≤ 7302249) (hW : WA a) (h8 : IC a μ) (h9 : IM a μ) (kk : ∀ a' ν, WA a' → IC a' ν → IM a' ν → LW x p e s m below meth c b kc ks 879 (lvL x b i) [] ν) : LW x p e s m below meth c b kc ks 464 (lvL x b i) [] μ := by
  obtain ⟨r, a', hW', s8, s9⟩ : stp x a mX8_costs mX9_costs [.inl (xs (i + 1))] := step_costs hW (xs (i + 1))
  cases r with
  | inr z => exact z.elim
  | inl v =>
    refine lr_aload (i := 1) hC dL_law_464 rfl (List.mem_of_getElem? (i := 1) rfl) ?_
    refine lr_arg (j := 1) hC hL (by omega) dL_law_465 dL_law_466 dL_law_467 dL_law_468 dL_law_469 rfl rfl (by decide) ?_
    refine lr_call (as := [.inl (xs (i + 1))]) (st := []) hC jc_8 dL_law_470 lf_X8_costs lz_575 lz_576 lz_577 hk1 hk2 (by decide) rfl (Nat.le_of_ble_eq_true rfl) (s8 μ _ h8 (fun ν i8 f8 => ?_))
    show LW x p e s m below meth c b kc ks 473 (lvL x b i) [.int v] ν
    refine lr_aload (i := 2) hC dL_law_473 rfl (List.mem_of_getElem? (i := 2) rfl) ?_
    refine lr_arg (j := 1) hC hL (by omega) dL_law_474 dL_law_475 dL_law_476 dL_law_477 dL_law_478 rfl rfl (by decide) ?_
    refine lr_call (as := [.inl (xs (i + 1))]) (st := [.int v]) hC jc_9 dL_law_479 lf_X9_costs lz_995 lz_996 lz_997 hk1 hk2 (by decide) rfl (Nat.le_of_ble_eq_true rfl) (s9 ν _ (IM_same f8 h9) (fun ν2 i9 f9 => ?_))
    show LW x p e s m below meth c b kc ks 482 (lvL x b i) [.int v, .int v] ν2
    refine lr_eq (tgt := 879) hC dL_law_482 (by decide) ?_
    exact kk a' ν2 hW' (IC_same f9 i8) i9
theorem l_exchange (hC : LC x p s m meth c b L xs) (hL : L ≤ 320) (hi : i + 5 ≤ L) (hk1 : kc ≤ 600000) (hk2 : ks ≤ 7302249) (hW : WA a) (h8 : IC a μ) (h9 : IM a μ) (kk : ∀ a' ν, WA a' → IC a' ν → IM a' ν → LW x p e s m below meth c b kc ks 879 (lvL x b i) [] ν) : LW x p e s m below meth c b kc ks 487 (lvL x b i) [] μ := by
  obtain ⟨r, a', hW', s8, s9⟩ : stp x a mX8_exchange mX9_exchange [] := step_exchange hW
  cases r with
  | inr z => exact z.elim
  | inl v =>
    refine lr_aload (i := 1) hC dL_law_487 rfl (List.mem_of_getElem? (i := 1) rfl) ?_
    refine lr_call (as := []) (st := []) hC jc_8 dL_law_488 lf_X8_exchange lz_584 lz_585 lz_586 hk1 hk2 (by decide) rfl (Nat.le_of_ble_eq_true rfl) (s8 μ _ h8 (fun ν i8 f8 => ?_))
    show LW x p e s m below meth c b kc ks 491 (lvL x b i) [.int v] ν
    refine lr_aload (i := 2) hC dL_law_491 rfl (List.mem_of_getElem? (i := 2) rfl) ?_
    refine lr_call (as := []) (st := [.int v]) hC jc_9 dL_law_492 lf_X9_exchange lz_1007 lz_1008 lz_1009 hk1 hk2 (by decide) rfl (Nat.le_of_ble_eq_true rfl) (s9 ν _ (IM_same f8 h9) (fun ν2 i9 f9 => ?_))
    show LW x p e s m below meth c b kc ks 495 (lvL x b i) [.int v, .int v] ν2
    refine lr_eq (tgt := 879) hC dL_law_495 (by decide) ?_
    exact kk a' ν2 hW' (IC_same f9 i8) i9
theorem l_leftOut (hC : LC x p s m meth c b L xs) (hL : L ≤ 320) (hi : i + 5 ≤ L) (hk1 : kc ≤ 600000) (hk2 : ks ≤ 7302249) (hW : WA a) (h8 : IC a μ) (h9 : IM a μ) (kk : ∀ a' ν, WA a' → IC a' ν → IM a' ν → LW x p e s m below meth c b kc ks 879 (lvL x b i) [] ν) : LW x p e s m below meth c b kc ks 500 (lvL x b i) [] μ := by
  obtain ⟨r, a', hW', s8, s9⟩ : stp x a mX8_leftOut mX9_leftOut [.inl (xs (i + 1)), .inl (xs (i + 2))] := step_leftOut hW
  cases r with
  | inr z => exact z.elim
  | inl v =>
    refine lr_aload (i := 1) hC dL_law_500 rfl (List.mem_of_getElem? (i := 1) rfl) ?_
    refine lr_arg (j := 1) hC hL (by omega) dL_law_501 dL_law_502 dL_law_503 dL_law_504 dL_law_505 rfl rfl (by decide) ?_
    refine lr_arg (j := 2) hC hL (by omega) dL_law_506 dL_law_507 dL_law_508 dL_law_509 dL_law_510 rfl rfl (by decide) ?_
    refine lr_call (as := [.inl (xs (i + 1)), .inl (xs (i + 2))]) (st := []) hC jc_8 dL_law_511 lf_X8_leftOut lz_596 lz_597 lz_598 hk1 hk2 (by decide) rfl (Nat.le_of_ble_eq_true rfl) (s8 μ _ h8 (fun ν i8 f8 => ?_))
    show LW x p e s m below meth c b kc ks 514 (lvL x b i) [.int v] ν
    refine lr_aload (i := 2) hC dL_law_514 rfl (List.mem_of_getElem? (i := 2) rfl) ?_
    refine lr_arg (j := 1) hC hL (by omega) dL_law_515 dL_law_516 dL_law_517 dL_law_518 dL_law_519 rfl rfl (by decide) ?_
    refine lr_arg (j := 2) hC hL (by omega) dL_law_520 dL_law_521 dL_law_522 dL_law_523 dL_law_524 rfl rfl (by decide) ?_
    refine lr_call (as := [.inl (xs (i + 1)), .inl (xs (i + 2))]) (st := [.int v]) hC jc_9 dL_law_525 lf_X9_leftOut lz_1015 lz_1016 lz_1017 hk1 hk2 (by decide) rfl (Nat.le_of_ble_eq_true rfl) (s9 ν _ (IM_same f8 h9) (fun ν2 i9 f9 => ?_))
    show LW x p e s m below meth c b kc ks 528 (lvL x b i) [.int v, .int v] ν2
    refine lr_eq (tgt := 879) hC dL_law_528 (by decide) ?_
    exact kk a' ν2 hW' (IC_same f9 i8) i9
theorem l_bars (hC : LC x p s m meth c b L xs) (hL : L ≤ 320) (hi : i + 5 ≤ L) (hk1 : kc ≤ 600000) (hk2 : ks ≤ 7302249) (hW : WA a) (h8 : IC a μ) (h9 : IM a μ) (kk : ∀ a' ν, WA a' → IC a' ν → IM a' ν → LW x p e s m below meth c b kc ks 879 (lvL x b i) [] ν) : LW x p e s m below meth c b kc ks 533 (lvL x b i) [] μ := by
  obtain ⟨r, a', hW', s8, s9⟩ : stp x a mX8_bars mX9_bars [.inl (xs (i + 1))] := step_bars hW (xs (i + 1))
  cases r with
  | inr z => exact z.elim
  | inl v =>
    refine lr_aload (i := 1) hC dL_law_533 rfl (List.mem_of_getElem? (i := 1) rfl) ?_
    refine lr_arg (j := 1) hC hL (by omega) dL_law_534 dL_law_535 dL_law_536 dL_law_537 dL_law_538 rfl rfl (by decide) ?_
    refine lr_call (as := [.inl (xs (i + 1))]) (st := []) hC jc_8 dL_law_539 lf_X8_bars lz_624 lz_625 lz_626 hk1 hk2 (by decide) rfl (Nat.le_of_ble_eq_true rfl) (s8 μ _ h8 (fun ν i8 f8 => ?_))
    show LW x p e s m below meth c b kc ks 542 (lvL x b i) [.int v] ν
    refine lr_aload (i := 2) hC dL_law_542 rfl (List.mem_of_getElem? (i := 2) rfl) ?_
    refine lr_arg (j := 1) hC hL (by omega) dL_law_543 dL_law_544 dL_law_545 dL_law_546 dL_law_547 rfl rfl (by decide) ?_
    refine lr_call (as := [.inl (xs (i + 1))]) (st := [.int v]) hC jc_9 dL_law_548 lf_X9_bars lz_1019 lz_1020 lz_1021 hk1 hk2 (by decide) rfl (Nat.le_of_ble_eq_true rfl) (s9 ν _ (IM_same f8 h9) (fun ν2 i9 f9 => ?_))
    show LW x p e s m below meth c b kc ks 551 (lvL x b i) [.int v, .int v] ν2
    refine lr_eq (tgt := 879) hC dL_law_551 (by decide) ?_
    exact kk a' ν2 hW' (IC_same f9 i8) i9
theorem l_heard (hC : LC x p s m meth c b L xs) (hL : L ≤ 320) (hi : i + 5 ≤ L) (hk1 : kc ≤ 600000) (hk2 : ks ≤ 7302249) (hW : WA a) (h8 : IC a μ) (h9 : IM a μ) (kk : ∀ a' ν, WA a' → IC a' ν → IM a' ν → LW x p e s m below meth c b kc ks 879 (lvL x b i) [] ν) : LW x p e s m below meth c b kc ks 556 (lvL x b i) [] μ := by
  obtain ⟨r, a', hW', s8, s9⟩ : stp x a mX8_heard mX9_heard [.inl (xs (i + 1))] := step_heard hW (xs (i + 1))
  cases r with
  | inr z => exact z.elim
  | inl v =>
    refine lr_aload (i := 1) hC dL_law_556 rfl (List.mem_of_getElem? (i := 1) rfl) ?_
    refine lr_arg (j := 1) hC hL (by omega) dL_law_557 dL_law_558 dL_law_559 dL_law_560 dL_law_561 rfl rfl (by decide) ?_
    refine lr_call (as := [.inl (xs (i + 1))]) (st := []) hC jc_8 dL_law_562 lf_X8_heard lz_637 lz_638 lz_639 hk1 hk2 (by decide) rfl (Nat.le_of_ble_eq_true rfl) (s8 μ _ h8 (fun ν i8 f8 => ?_))
    show LW x p e s m below meth c b kc ks 565 (lvL x b i) [.int v] ν
    refine lr_aload (i := 2) hC dL_law_565 rfl (List.mem_of_getElem? (i := 2) rfl) ?_
    refine lr_arg (j := 1) hC hL (by omega) dL_law_566 dL_law_567 dL_law_568 dL_law_569 dL_law_570 rfl rfl (by decide) ?_
    refine lr_call (as := [.inl (xs (i + 1))]) (st := [.int v]) hC jc_9 dL_law_571 lf_X9_heard lz_1027 lz_1028 lz_1029 hk1 hk2 (by decide) rfl (Nat.le_of_ble_eq_true rfl) (s9 ν _ (IM_same f8 h9) (fun ν2 i9 f9 => ?_))
    show LW x p e s m below meth c b kc ks 574 (lvL x b i) [.int v, .int v] ν2
    refine lr_eq (tgt := 879) hC dL_law_574 (by decide) ?_
    exact kk a' ν2 hW' (IC_same f9 i8) i9
theorem l_rests (hC : LC x p s m meth c b L xs) (hL : L ≤ 320) (hi : i + 5 ≤ L) (hk1 : kc ≤ 600000) (hk2 : ks ≤ 7302249) (hW : WA a) (h8 : IC a μ) (h9 : IM a μ) (kk : ∀ a' ν, WA a' → IC a' ν → IM a' ν → LW x p e s m below meth c b kc ks 879 (lvL x b i) [] ν) : LW x p e s m below meth c b kc ks 579 (lvL x b i) [] μ := by
  obtain ⟨r, a', hW', s8, s9⟩ : stp x a mX8_rests mX9_rests [.inl (xs (i + 1))] := step_rests hW (xs (i + 1))
  cases r with
  | inr z => exact z.elim
  | inl v =>
    refine lr_aload (i := 1) hC dL_law_579 rfl (List.mem_of_getElem? (i := 1) rfl) ?_
    refine lr_arg (j := 1) hC hL (by omega) dL_law_580 dL_law_581 dL_law_582 dL_law_583 dL_law_584 rfl rfl (by decide) ?_
    refine lr_call (as := [.inl (xs (i + 1))]) (st := []) hC jc_8 dL_law_585 lf_X8_rests lz_649 lz_650 lz_651 hk1 hk2 (by decide) rfl (Nat.le_of_ble_eq_true rfl) (s8 μ _ h8 (fun ν i8 f8 => ?_))
    show LW x p e s m below meth c b kc ks 588 (lvL x b i) [.int v] ν
    refine lr_aload (i := 2) hC dL_law_588 rfl (List.mem_of_getElem? (i := 2) rfl) ?_
    refine lr_arg (j := 1) hC hL (by omega) dL_law_589 dL_law_590 dL_law_591 dL_law_592 dL_law_593 rfl rfl (by decide) ?_
    refine lr_call (as := [.inl (xs (i + 1))]) (st := [.int v]) hC jc_9 dL_law_594 lf_X9_rests lz_1035 lz_1036 lz_1037 hk1 hk2 (by decide) rfl (Nat.le_of_ble_eq_true rfl) (s9 ν _ (IM_same f8 h9) (fun ν2 i9 f9 => ?_))
    show LW x p e s m below meth c b kc ks 597 (lvL x b i) [.int v, .int v] ν2
    refine lr_eq (tgt := 879) hC dL_law_597 (by decide) ?_
    exact kk a' ν2 hW' (IC_same f9 i8) i9
theorem l_first (hC : LC x p s m meth c b L xs) (hL : L ≤ 320) (hi : i + 5 ≤ L) (hk1 : kc ≤ 600000) (hk2 : ks ≤ 7302249) (hW : WA a) (h8 : IC a μ) (h9 : IM a μ) (kk : ∀ a' ν, WA a' → IC a' ν → IM a' ν → LW x p e s m below meth c b kc ks 879 (lvL x b i) [] ν) : LW x p e s m below meth c b kc ks 602 (lvL x b i) [] μ := by
  obtain ⟨r, a', hW', s8, s9⟩ : stp x a mX8_first mX9_first [] := step_first hW
  cases r with
  | inr z => exact z.elim
  | inl v =>
    refine lr_aload (i := 1) hC dL_law_602 rfl (List.mem_of_getElem? (i := 1) rfl) ?_
    refine lr_call (as := []) (st := []) hC jc_8 dL_law_603 lf_X8_first lz_653 lz_654 lz_655 hk1 hk2 (by decide) rfl (Nat.le_of_ble_eq_true rfl) (s8 μ _ h8 (fun ν i8 f8 => ?_))
    show LW x p e s m below meth c b kc ks 606 (lvL x b i) [.int v] ν
    refine lr_aload (i := 2) hC dL_law_606 rfl (List.mem_of_getElem? (i := 2) rfl) ?_
    refine lr_call (as := []) (st := [.int v]) hC jc_9 dL_law_607 lf_X9_first lz_1039 lz_1040 lz_1041 hk1 hk2 (by decide) rfl (Nat.le_of_ble_eq_true rfl) (s9 ν _ (IM_same f8 h9) (fun ν2 i9 f9 => ?_))
    show LW x p e s m below meth c b kc ks 610 (lvL x b i) [.int v, .int v] ν2
    refine lr_eq (tgt := 879) hC dL_law_610 (by decide) ?_
    exact kk a' ν2 hW' (IC_same f9 i8) i9
theorem l_noted (hC : LC x p s m meth c b L xs) (hL : L ≤ 320) (hi : i + 5 ≤ L) (hk1 : kc ≤ 600000) (hk2 : ks ≤ 7302249) (hW : WA a) (h8 : IC a μ) (h9 : IM a μ) (kk : ∀ a' ν, WA a' → IC a' ν → IM a' ν → LW x p e s m below meth c b kc ks 879 (lvL x b i) [] ν) : LW x p e s m below meth c b kc ks 615 (lvL x b i) [] μ := by
  obtain ⟨r, a', hW', s8, s9⟩ : stp x a mX8_noted mX9_noted [.inl (xs (i + 1)), .inl (xs (i + 2))] := step_noted hW (xs (i + 1)) (xs (i + 2))
  cases r with
  | inr z => exact z.elim
  | inl v =>
    refine lr_aload (i := 1) hC dL_law_615 rfl (List.mem_of_getElem? (i := 1) rfl) ?_
    refine lr_arg (j := 1) hC hL (by omega) dL_law_616 dL_law_617 dL_law_618 dL_law_619 dL_law_620 rfl rfl (by decide) ?_
    refine lr_arg (j := 2) hC hL (by omega) dL_law_621 dL_law_622 dL_law_623 dL_law_624 dL_law_625 rfl rfl (by decide) ?_
    refine lr_call (as := [.inl (xs (i + 1)), .inl (xs (i + 2))]) (st := []) hC jc_8 dL_law_626 lf_X8_noted lz_658 lz_659 lz_660 hk1 hk2 (by decide) rfl (Nat.le_of_ble_eq_true rfl) (s8 μ _ h8 (fun ν i8 f8 => ?_))
    show LW x p e s m below meth c b kc ks 629 (lvL x b i) [.int v] ν
    refine lr_aload (i := 2) hC dL_law_629 rfl (List.mem_of_getElem? (i := 2) rfl) ?_
    refine lr_arg (j := 1) hC hL (by omega) dL_law_630 dL_law_631 dL_law_632 dL_law_633 dL_law_634 rfl rfl (by decide) ?_
    refine lr_arg (j := 2) hC hL (by omega) dL_law_635 dL_law_636 dL_law_637 dL_law_638 dL_law_639 rfl rfl (by decide) ?_
    refine lr_call (as := [.inl (xs (i + 1)), .inl (xs (i + 2))]) (st := [.int v]) hC jc_9 dL_law_640 lf_X9_noted lz_1043 lz_1044 lz_1045 hk1 hk2 (by decide) rfl (Nat.le_of_ble_eq_true rfl) (s9 ν _ (IM_same f8 h9) (fun ν2 i9 f9 => ?_))
    show LW x p e s m below meth c b kc ks 643 (lvL x b i) [.int v, .int v] ν2
    refine lr_eq (tgt := 879) hC dL_law_643 (by decide) ?_
    exact kk a' ν2 hW' (IC_same f9 i8) i9
theorem l_forget (hC : LC x p s m meth c b L xs) (hL : L ≤ 320) (hi : i + 5 ≤ L) (hk1 : kc ≤ 600000) (hk2 : ks ≤ 7302249) (hW : WA a) (h8 : IC a μ) (h9 : IM a μ) (kk : ∀ a' ν, WA a' → IC a' ν → IM a' ν → LW x p e s m below meth c b kc ks 879 (lvL x b i) [] ν) : LW x p e s m below meth c b kc ks 648 (lvL x b i) [] μ := by
  obtain ⟨r, a', hW', s8, s9⟩ : stp x a mX8_forget mX9_forget [] := step_forget hW
  cases r with
  | inr z => exact z.elim
  | inl v =>
    refine lr_aload (i := 1) hC dL_law_648 rfl (List.mem_of_getElem? (i := 1) rfl) ?_
    refine lr_call (as := []) (st := []) hC jc_8 dL_law_649 lf_X8_forget lz_662 lz_663 lz_664 hk1 hk2 (by decide) rfl (Nat.le_of_ble_eq_true rfl) (s8 μ _ h8 (fun ν i8 f8 => ?_))
    show LW x p e s m below meth c b kc ks 652 (lvL x b i) [.int v] ν
    refine lr_aload (i := 2) hC dL_law_652 rfl (List.mem_of_getElem? (i := 2) rfl) ?_
    refine lr_call (as := []) (st := [.int v]) hC jc_9 dL_law_653 lf_X9_forget lz_1047 lz_1048 lz_1049 hk1 hk2 (by decide) rfl (Nat.le_of_ble_eq_true rfl) (s9 ν _ (IM_same f8 h9) (fun ν2 i9 f9 => ?_))
    show LW x p e s m below meth c b kc ks 656 (lvL x b i) [.int v, .int v] ν2
    refine lr_eq (tgt := 879) hC dL_law_656 (by decide) ?_
    exact kk a' ν2 hW' (IC_same f9 i8) i9
theorem l_who (hC : LC x p s m meth c b L xs) (hL : L ≤ 320) (hi : i + 5 ≤ L) (hk1 : kc ≤ 600000) (hk2 : ks ≤ 7302249) (hW : WA a) (h8 : IC a μ) (h9 : IM a μ) (kk : ∀ a' ν, WA a' → IC a' ν → IM a' ν → LW x p e s m below meth c b kc ks 879 (lvL x b i) [] ν) : LW x p e s m below meth c b kc ks 661 (lvL x b i) [] μ := by
  obtain ⟨r, a', hW', s8, s9⟩ : stp x a mX8_who mX9_who [] := step_who hW
  cases r with
  | inr z => exact z.elim
  | inl v =>
    refine lr_aload (i := 1) hC dL_law_661 rfl (List.mem_of_getElem? (i := 1) rfl) ?_
    refine lr_call (as := []) (st := []) hC jc_8 dL_law_662 lf_X8_who lz_666 lz_667 lz_668 hk1 hk2 (by decide) rfl (Nat.le_of_ble_eq_true rfl) (s8 μ _ h8 (fun ν i8 f8 => ?_))
    show LW x p e s m below meth c b kc ks 665 (lvL x b i) [.int v] ν
    refine lr_aload (i := 2) hC dL_law_665 rfl (List.mem_of_getElem? (i := 2) rfl) ?_
    refine lr_call (as := []) (st := [.int v]) hC jc_9 dL_law_666 lf_X9_who lz_1051 lz_1052 lz_1053 hk1 hk2 (by decide) rfl (Nat.le_of_ble_eq_true rfl) (s9 ν _ (IM_same f8 h9) (fun ν2 i9 f9 => ?_))
    show LW x p e s m below meth c b kc ks 669 (lvL x b i) [.int v, .int v] ν2
    refine lr_eq (tgt := 879) hC dL_law_669 (by decide) ?_
    exact kk a' ν2 hW' (IC_same f9 i8) i9
theorem l_broke (hC : LC x p s m meth c b L xs) (hL : L ≤ 320) (hi : i + 5 ≤ L) (hk1 : kc ≤ 600000) (hk2 : ks ≤ 7302249) (hW : WA a) (h8 : IC a μ) (h9 : IM a μ) (kk : ∀ a' ν, WA a' → IC a' ν → IM a' ν → LW x p e s m below meth c b kc ks 879 (lvL x b i) [] ν) : LW x p e s m below meth c b kc ks 674 (lvL x b i) [] μ := by
  obtain ⟨r, a', hW', s8, s9⟩ : stp x a mX8_broke mX9_broke [] := step_broke hW
  cases r with
  | inr z => exact z.elim
  | inl v =>
    refine lr_aload (i := 1) hC dL_law_674 rfl (List.mem_of_getElem? (i := 1) rfl) ?_
    refine lr_call (as := []) (st := []) hC jc_8 dL_law_675 lf_X8_broke lz_674 lz_675 lz_676 hk1 hk2 (by decide) rfl (Nat.le_of_ble_eq_true rfl) (s8 μ _ h8 (fun ν i8 f8 => ?_))
    show LW x p e s m below meth c b kc ks 678 (lvL x b i) [.int v] ν
    refine lr_aload (i := 2) hC dL_law_678 rfl (List.mem_of_getElem? (i := 2) rfl) ?_
    refine lr_call (as := []) (st := [.int v]) hC jc_9 dL_law_679 lf_X9_broke lz_1059 lz_1060 lz_1061 hk1 hk2 (by decide) rfl (Nat.le_of_ble_eq_true rfl) (s9 ν _ (IM_same f8 h9) (fun ν2 i9 f9 => ?_))
    show LW x p e s m below meth c b kc ks 682 (lvL x b i) [.int v, .int v] ν2
    refine lr_eq (tgt := 879) hC dL_law_682 (by decide) ?_
    exact kk a' ν2 hW' (IC_same f9 i8) i9
theorem l_rich (hC : LC x p s m meth c b L xs) (hL : L ≤ 320) (hi : i + 5 ≤ L) (hk1 : kc ≤ 600000) (hk2 : ks ≤ 7302249) (hW : WA a) (h8 : IC a μ) (h9 : IM a μ) (kk : ∀ a' ν, WA a' → IC a' ν → IM a' ν → LW x p e s m below meth c b kc ks 879 (lvL x b i) [] ν) : LW x p e s m below meth c b kc ks 687 (lvL x b i) [] μ := by
  obtain ⟨r, a', hW', s8, s9⟩ : stp x a mX8_rich mX9_rich [.inl (xs (i + 1))] := step_rich hW (xs (i + 1))
  cases r with
  | inr z => exact z.elim
  | inl v =>
    refine lr_aload (i := 1) hC dL_law_687 rfl (List.mem_of_getElem? (i := 1) rfl) ?_
    refine lr_arg (j := 1) hC hL (by omega) dL_law_688 dL_law_689 dL_law_690 dL_law_691 dL_law_692 rfl rfl (by decide) ?_
    refine lr_call (as := [.inl (xs (i + 1))]) (st := []) hC jc_8 dL_law_693 lf_X8_rich lz_699 lz_700 lz_701 hk1 hk2 (by decide) rfl (Nat.le_of_ble_eq_true rfl) (s8 μ _ h8 (fun ν i8 f8 => ?_))
    show LW x p e s m below meth c b kc ks 696 (lvL x b i) [.int v] ν
    refine lr_aload (i := 2) hC dL_law_696 rfl (List.mem_of_getElem? (i := 2) rfl) ?_
    refine lr_arg (j := 1) hC hL (by omega) dL_law_697 dL_law_698 dL_law_699 dL_law_700 dL_law_701 rfl rfl (by decide) ?_
    refine lr_call (as := [.inl (xs (i + 1))]) (st := [.int v]) hC jc_9 dL_law_702 lf_X9_rich lz_1067 lz_1068 lz_1069 hk1 hk2 (by decide) rfl (Nat.le_of_ble_eq_true rfl) (s9 ν _ (IM_same f8 h9) (fun ν2 i9 f9 => ?_))
    show LW x p e s m below meth c b kc ks 705 (lvL x b i) [.int v, .int v] ν2
    refine lr_eq (tgt := 879) hC dL_law_705 (by decide) ?_
    exact kk a' ν2 hW' (IC_same f9 i8) i9
theorem l_odds (hC : LC x p s m meth c b L xs) (hL : L ≤ 320) (hi : i + 5 ≤ L) (hk1 : kc ≤ 600000) (hk2 : ks ≤ 7302249) (hW : WA a) (h8 : IC a μ) (h9 : IM a μ) (kk : ∀ a' ν, WA a' → IC a' ν → IM a' ν → LW x p e s m below meth c b kc ks 879 (lvL x b i) [] ν) : LW x p e s m below meth c b kc ks 710 (lvL x b i) [] μ := by
  obtain ⟨r, a', hW', s8, s9⟩ : stp x a mX8_odds mX9_odds [.inl (xs (i + 1)), .inl (xs (i + 2)), .inl (xs (i + 3)), .inl (xs (i + 4))] := step_odds hW
  cases r with
  | inr z => exact z.elim
  | inl v =>
    refine lr_aload (i := 1) hC dL_law_710 rfl (List.mem_of_getElem? (i := 1) rfl) ?_
    refine lr_arg (j := 1) hC hL (by omega) dL_law_711 dL_law_712 dL_law_713 dL_law_714 dL_law_715 rfl rfl (by decide) ?_
    refine lr_arg (j := 2) hC hL (by omega) dL_law_716 dL_law_717 dL_law_718 dL_law_719 dL_law_720 rfl rfl (by decide) ?_
    refine lr_arg (j := 3) hC hL (by omega) dL_law_721 dL_law_722 dL_law_723 dL_law_724 dL_law_725 rfl rfl (by decide) ?_
    refine lr_arg (j := 4) hC hL (by omega) dL_law_726 dL_law_727 dL_law_728 dL_law_729 dL_law_730 rfl rfl (by decide) ?_
    refine lr_call (as := [.inl (xs (i + 1)), .inl (xs (i + 2)), .inl (xs (i + 3)), .inl (xs (i + 4))]) (st := []) hC jc_8 dL_law_731 lf_X8_odds lz_707 lz_708 lz_709 hk1 hk2 (by decide) rfl (Nat.le_of_ble_eq_true rfl) (s8 μ _ h8 (fun ν i8 f8 => ?_))
    show LW x p e s m below meth c b kc ks 734 (lvL x b i) [.int v] ν
    refine lr_aload (i := 2) hC dL_law_734 rfl (List.mem_of_getElem? (i := 2) rfl) ?_
    refine lr_arg (j := 1) hC hL (by omega) dL_law_735 dL_law_736 dL_law_737 dL_law_738 dL_law_739 rfl rfl (by decide) ?_
    refine lr_arg (j := 2) hC hL (by omega) dL_law_740 dL_law_741 dL_law_742 dL_law_743 dL_law_744 rfl rfl (by decide) ?_
    refine lr_arg (j := 3) hC hL (by omega) dL_law_745 dL_law_746 dL_law_747 dL_law_748 dL_law_749 rfl rfl (by decide) ?_
    refine lr_arg (j := 4) hC hL (by omega) dL_law_750 dL_law_751 dL_law_752 dL_law_753 dL_law_754 rfl rfl (by decide) ?_
    refine lr_call (as := [.inl (xs (i + 1)), .inl (xs (i + 2)), .inl (xs (i + 3)), .inl (xs (i + 4))]) (st := [.int v]) hC jc_9 dL_law_755 lf_X9_odds lz_1071 lz_1072 lz_1073 hk1 hk2 (by decide) rfl (Nat.le_of_ble_eq_true rfl) (s9 ν _ (IM_same f8 h9) (fun ν2 i9 f9 => ?_))
    show LW x p e s m below meth c b kc ks 758 (lvL x b i) [.int v, .int v] ν2
    refine lr_eq (tgt := 879) hC dL_law_758 (by decide) ?_
    exact kk a' ν2 hW' (IC_same f9 i8) i9
theorem l_rate (hC : LC x p s m meth c b L xs) (hL : L ≤ 320) (hi : i + 5 ≤ L) (hk1 : kc ≤ 600000) (hk2 : ks ≤ 7302249) (hW : WA a) (h8 : IC a μ) (h9 : IM a μ) (kk : ∀ a' ν, WA a' → IC a' ν → IM a' ν → LW x p e s m below meth c b kc ks 879 (lvL x b i) [] ν) : LW x p e s m below meth c b kc ks 763 (lvL x b i) [] μ := by
  obtain ⟨r, a', hW', s8, s9⟩ : stp x a mX8_rate mX9_rate [.inl (xs (i + 1)), .inl (xs (i + 2))] := step_rate hW (xs (i + 1)) (xs (i + 2))
  cases r with
  | inr z => exact z.elim
  | inl v =>
    refine lr_aload (i := 1) hC dL_law_763 rfl (List.mem_of_getElem? (i := 1) rfl) ?_
    refine lr_arg (j := 1) hC hL (by omega) dL_law_764 dL_law_765 dL_law_766 dL_law_767 dL_law_768 rfl rfl (by decide) ?_
    refine lr_arg (j := 2) hC hL (by omega) dL_law_769 dL_law_770 dL_law_771 dL_law_772 dL_law_773 rfl rfl (by decide) ?_
    refine lr_call (as := [.inl (xs (i + 1)), .inl (xs (i + 2))]) (st := []) hC jc_8 dL_law_774 lf_X8_rate lz_718 lz_719 lz_720 hk1 hk2 (by decide) rfl (Nat.le_of_ble_eq_true rfl) (s8 μ _ h8 (fun ν i8 f8 => ?_))
    show LW x p e s m below meth c b kc ks 777 (lvL x b i) [.int v] ν
    refine lr_aload (i := 2) hC dL_law_777 rfl (List.mem_of_getElem? (i := 2) rfl) ?_
    refine lr_arg (j := 1) hC hL (by omega) dL_law_778 dL_law_779 dL_law_780 dL_law_781 dL_law_782 rfl rfl (by decide) ?_
    refine lr_arg (j := 2) hC hL (by omega) dL_law_783 dL_law_784 dL_law_785 dL_law_786 dL_law_787 rfl rfl (by decide) ?_
    refine lr_call (as := [.inl (xs (i + 1)), .inl (xs (i + 2))]) (st := [.int v]) hC jc_9 dL_law_788 lf_X9_rate lz_1078 lz_1079 lz_1080 hk1 hk2 (by decide) rfl (Nat.le_of_ble_eq_true rfl) (s9 ν _ (IM_same f8 h9) (fun ν2 i9 f9 => ?_))
    show LW x p e s m below meth c b kc ks 791 (lvL x b i) [.int v, .int v] ν2
    refine lr_eq (tgt := 879) hC dL_law_791 (by decide) ?_
    exact kk a' ν2 hW' (IC_same f9 i8) i9
theorem l_keep (hC : LC x p s m meth c b L xs) (hL : L ≤ 320) (hi : i + 5 ≤ L) (hk1 : kc ≤ 600000) (hk2 : ks ≤ 7302249) (hW : WA a) (h8 : IC a μ) (h9 : IM a μ) (kk : ∀ a' ν, WA a' → IC a' ν → IM a' ν → LW x p e s m below meth c b kc ks 879 (lvL x b i) [] ν) : LW x p e s m below meth c b kc ks 796 (lvL x b i) [] μ := by
  obtain ⟨r, a', hW', s8, s9⟩ : stp x a mX8_keep mX9_keep [.inl (xs (i + 1))] := step_keep hW (xs (i + 1))
  cases r with
  | inr z => exact z.elim
  | inl v =>
    refine lr_aload (i := 1) hC dL_law_796 rfl (List.mem_of_getElem? (i := 1) rfl) ?_
    refine lr_arg (j := 1) hC hL (by omega) dL_law_797 dL_law_798 dL_law_799 dL_law_800 dL_law_801 rfl rfl (by decide) ?_
    refine lr_call (as := [.inl (xs (i + 1))]) (st := []) hC jc_8 dL_law_802 lf_X8_keep lz_751 lz_752 lz_753 hk1 hk2 (by decide) rfl (Nat.le_of_ble_eq_true rfl) (s8 μ _ h8 (fun ν i8 f8 => ?_))
    show LW x p e s m below meth c b kc ks 805 (lvL x b i) [.int v] ν
    refine lr_aload (i := 2) hC dL_law_805 rfl (List.mem_of_getElem? (i := 2) rfl) ?_
    refine lr_arg (j := 1) hC hL (by omega) dL_law_806 dL_law_807 dL_law_808 dL_law_809 dL_law_810 rfl rfl (by decide) ?_
    refine lr_call (as := [.inl (xs (i + 1))]) (st := [.int v]) hC jc_9 dL_law_811 lf_X9_keep lz_1087 lz_1088 lz_1089 hk1 hk2 (by decide) rfl (Nat.le_of_ble_eq_true rfl) (s9 ν _ (IM_same f8 h9) (fun ν2 i9 f9 => ?_))
    show LW x p e s m below meth c b kc ks 814 (lvL x b i) [.int v, .int v] ν2
    refine lr_eq (tgt := 879) hC dL_law_814 (by decide) ?_
    exact kk a' ν2 hW' (IC_same f9 i8) i9
theorem l_back (hC : LC x p s m meth c b L xs) (hL : L ≤ 320) (hi : i + 5 ≤ L) (hk1 : kc ≤ 600000) (hk2 : ks ≤ 7302249) (hW : WA a) (h8 : IC a μ) (h9 : IM a μ) (kk : ∀ a' ν, WA a' → IC a' ν → IM a' ν → LW x p e s m below meth c b kc ks 879 (lvL x b i) [] ν) : LW x p e s m below meth c b kc ks 819 (lvL x b i) [] μ := by
  obtain ⟨r, a', hW', s8, s9⟩ : stp x a mX8_back mX9_back [.inl (xs (i + 1))] := step_back hW (xs (i + 1))
  cases r with
  | inr z => exact z.elim
  | inl v =>
    refine lr_aload (i := 1) hC dL_law_819 rfl (List.mem_of_getElem? (i := 1) rfl) ?_
    refine lr_arg (j := 1) hC hL (by omega) dL_law_820 dL_law_821 dL_law_822 dL_law_823 dL_law_824 rfl rfl (by decide) ?_
    refine lr_call (as := [.inl (xs (i + 1))]) (st := []) hC jc_8 dL_law_825 lf_X8_back lz_756 lz_757 lz_758 hk1 hk2 (by decide) rfl (Nat.le_of_ble_eq_true rfl) (s8 μ _ h8 (fun ν i8 f8 => ?_))
    show LW x p e s m below meth c b kc ks 828 (lvL x b i) [.int v] ν
    refine lr_aload (i := 2) hC dL_law_828 rfl (List.mem_of_getElem? (i := 2) rfl) ?_
    refine lr_arg (j := 1) hC hL (by omega) dL_law_829 dL_law_830 dL_law_831 dL_law_832 dL_law_833 rfl rfl (by decide) ?_
    refine lr_call (as := [.inl (xs (i + 1))]) (st := [.int v]) hC jc_9 dL_law_834 lf_X9_back lz_1091 lz_1092 lz_1093 hk1 hk2 (by decide) rfl (Nat.le_of_ble_eq_true rfl) (s9 ν _ (IM_same f8 h9) (fun ν2 i9 f9 => ?_))
    show LW x p e s m below meth c b kc ks 837 (lvL x b i) [.int v, .int v] ν2
    refine lr_eq (tgt := 879) hC dL_law_837 (by decide) ?_
    exact kk a' ν2 hW' (IC_same f9 i8) i9
theorem l_count (hC : LC x p s m meth c b L xs) (hL : L ≤ 320) (hi : i + 5 ≤ L) (hk1 : kc ≤ 600000) (hk2 : ks ≤ 7302249) (hW : WA a) (h8 : IC a μ) (h9 : IM a μ) (kk : ∀ a' ν, WA a' → IC a' ν → IM a' ν → LW x p e s m below meth c b kc ks 879 (lvL x b i) [] ν) : LW x p e s m below meth c b kc ks 842 (lvL x b i) [] μ := by
  obtain ⟨r, a', hW', s8, s9⟩ : stp x a mX8_count mX9_count [.inl (xs (i + 1))] := step_count hW (xs (i + 1))
  cases r with
  | inr z => exact z.elim
  | inl v =>
    refine lr_aload (i := 1) hC dL_law_842 rfl (List.mem_of_getElem? (i := 1) rfl) ?_
    refine lr_arg (j := 1) hC hL (by omega) dL_law_843 dL_law_844 dL_law_845 dL_law_846 dL_law_847 rfl rfl (by decide) ?_
    refine lr_call (as := [.inl (xs (i + 1))]) (st := []) hC jc_8 dL_law_848 lf_X8_count lz_760 lz_761 lz_762 hk1 hk2 (by decide) rfl (Nat.le_of_ble_eq_true rfl) (s8 μ _ h8 (fun ν i8 f8 => ?_))
    show LW x p e s m below meth c b kc ks 851 (lvL x b i) [.int v] ν
    refine lr_aload (i := 2) hC dL_law_851 rfl (List.mem_of_getElem? (i := 2) rfl) ?_
    refine lr_arg (j := 1) hC hL (by omega) dL_law_852 dL_law_853 dL_law_854 dL_law_855 dL_law_856 rfl rfl (by decide) ?_
    refine lr_call (as := [.inl (xs (i + 1))]) (st := [.int v]) hC jc_9 dL_law_857 lf_X9_count lz_1095 lz_1096 lz_1097 hk1 hk2 (by decide) rfl (Nat.le_of_ble_eq_true rfl) (s9 ν _ (IM_same f8 h9) (fun ν2 i9 f9 => ?_))
    show LW x p e s m below meth c b kc ks 860 (lvL x b i) [.int v, .int v] ν2
    refine lr_eq (tgt := 879) hC dL_law_860 (by decide) ?_
    exact kk a' ν2 hW' (IC_same f9 i8) i9
theorem l_trace (hC : LC x p s m meth c b L xs) (hL : L ≤ 320) (hi : i + 5 ≤ L) (hk1 : kc ≤ 600000) (hk2 : ks ≤ 7302249) (hW : WA a) (h8 : IC a μ) (h9 : IM a μ) (kk : ∀ a' ν, WA a' → IC a' ν → IM a' ν → LW x p e s m below meth c b kc ks 879 (lvL x b i) [] ν) : LW x p e s m below meth c b kc ks 865 (lvL x b i) [] μ := by
  obtain ⟨r, a', hW', s8, s9⟩ : stpL x a mX8_trace mX9_trace [] := step_trace hW
  refine lr_aload (i := 1) hC dL_law_865 rfl (List.mem_of_getElem? (i := 1) rfl) ?_
  refine lr_call (as := []) (st := []) hC jc_8 dL_law_866 lf_X8_trace lz_764 lz_765 lz_766 hk1 hk2 (by decide) rfl (Nat.le_of_ble_eq_true rfl) (s8 μ _ h8 (fun ν i8 f8 => ?_))
  show LW x p e s m below meth c b kc ks 869 (lvL x b i) [.long r] ν
  refine lr_aload (i := 2) hC dL_law_869 rfl (List.mem_of_getElem? (i := 2) rfl) ?_
  refine lr_call (as := []) (st := [.long r]) hC jc_9 dL_law_870 lf_X9_trace lz_1099 lz_1100 lz_1101 hk1 hk2 (by decide) rfl (Nat.le_of_ble_eq_true rfl) (s9 ν _ (IM_same f8 h9) (fun ν2 i9 f9 => ?_))
  show LW x p e s m below meth c b kc ks 873 (lvL x b i) [.long r, .long r] ν2
  refine lr_leq (tgt := 879) hC dL_law_873 dL_law_874 (by decide) ?_
  exact kk a' ν2 hW' (IC_same f9 i8) i9
theorem l_sw (hC : LC x p s m meth c b L xs) (hL : L ≤ 320) (hi : i + 5 ≤ L) (hk1 : kc ≤ 600000) (hk2 : ks ≤ 7302249) (hW : WA a) (h8 : IC a μ) (h9 : IM a μ) (v : Int32) (kk : ∀ a' ν, WA a' → IC a' ν → IM a' ν → LW x p e s m below meth c b kc ks 879 (lvL x b i) [] ν) : LW x p e s m below meth c b kc ks 32 (lvL x b i) [.int v] μ := by
  have key : ∀ (j : Nat) (t : Nat), ([168, 191, 204, 217, 250, 283, 316, 339, 372, 415, 428, 441, 464, 487, 500, 533, 556, 579, 602, 615, 648, 661, 674, 687, 710, 763, 796, 819, 842, 865] : List Nat)[j]? = some t → LW x p e s m below meth c b kc ks t (lvL x b i) [] μ := by
    intro j t hj
    match j, hj with
    | 0, hj => cases hj; exact l_type hC hL hi hk1 hk2 hW h8 h9 kk
    | 1, hj => cases hj; exact l_clear hC hL hi hk1 hk2 hW h8 h9 kk
    | 2, hj => cases hj; exact l_score hC hL hi hk1 hk2 hW h8 h9 kk
    | 3, hj => cases hj; exact l_part hC hL hi hk1 hk2 hW h8 h9 kk
    | 4, hj => cases hj; exact l_player hC hL hi hk1 hk2 hW h8 h9 kk
    | 5, hj => cases hj; exact l_coins hC hL hi hk1 hk2 hW h8 h9 kk
    | 6, hj => cases hj; exact l_now hC hL hi hk1 hk2 hW h8 h9 kk
    | 7, hj => cases hj; exact l_gives hC hL hi hk1 hk2 hW h8 h9 kk
    | 8, hj => cases hj; exact l_sleeps hC hL hi hk1 hk2 hW h8 h9 kk
    | 9, hj => cases hj; exact l_evening hC hL hi hk1 hk2 hW h8 h9 kk
    | 10, hj => cases hj; exact l_undo hC hL hi hk1 hk2 hW h8 h9 kk
    | 11, hj => cases hj; exact l_share hC hL hi hk1 hk2 hW h8 h9 kk
    | 12, hj => cases hj; exact l_costs hC hL hi hk1 hk2 hW h8 h9 kk
    | 13, hj => cases hj; exact l_exchange hC hL hi hk1 hk2 hW h8 h9 kk
    | 14, hj => cases hj; exact l_leftOut hC hL hi hk1 hk2 hW h8 h9 kk
    | 15, hj => cases hj; exact l_bars hC hL hi hk1 hk2 hW h8 h9 kk
    | 16, hj => cases hj; exact l_heard hC hL hi hk1 hk2 hW h8 h9 kk
    | 17, hj => cases hj; exact l_rests hC hL hi hk1 hk2 hW h8 h9 kk
    | 18, hj => cases hj; exact l_first hC hL hi hk1 hk2 hW h8 h9 kk
    | 19, hj => cases hj; exact l_noted hC hL hi hk1 hk2 hW h8 h9 kk
    | 20, hj => cases hj; exact l_forget hC hL hi hk1 hk2 hW h8 h9 kk
    | 21, hj => cases hj; exact l_who hC hL hi hk1 hk2 hW h8 h9 kk
    | 22, hj => cases hj; exact l_broke hC hL hi hk1 hk2 hW h8 h9 kk
    | 23, hj => cases hj; exact l_rich hC hL hi hk1 hk2 hW h8 h9 kk
    | 24, hj => cases hj; exact l_odds hC hL hi hk1 hk2 hW h8 h9 kk
    | 25, hj => cases hj; exact l_rate hC hL hi hk1 hk2 hW h8 h9 kk
    | 26, hj => cases hj; exact l_keep hC hL hi hk1 hk2 hW h8 h9 kk
    | 27, hj => cases hj; exact l_back hC hL hi hk1 hk2 hW h8 h9 kk
    | 28, hj => cases hj; exact l_count hC hL hi hk1 hk2 hW h8 h9 kk
    | 29, hj => cases hj; exact l_trace hC hL hi hk1 hk2 hW h8 h9 kk
    | j + 30, hj => simp at hj
  intro H locs rl hP hS hl
  by_cases h1 : v.toInt < 0
  · exact lv_tableOut (tgt := 879) hC.1.1 hC.1.2.1 dL_law_32 (Or.inl h1) (by decide) (kk a μ hW h8 h9 H locs rl hP hS hl)
  · by_cases h2 : 29 < v.toInt
    · exact lv_tableOut (tgt := 879) hC.1.1 hC.1.2.1 dL_law_32 (Or.inr h2) (by decide) (kk a μ hW h8 h9 H locs rl hP hS hl)
    · obtain ⟨j, hj⟩ : ∃ j : Nat, v.toInt = (j : Int) := ⟨v.toInt.toNat, by omega⟩
      have hj30 : j < 30 := by omega
      have ho : ∀ j < 30, ∃ off : Int, (#[136, 159, 172, 185, 218, 251, 284, 307, 340, 383, 396, 409, 432, 455, 468, 501, 524, 547, 570, 583, 616, 629, 642, 655, 678, 731, 764, 787, 810, 833] : Array Int)[j]? = some off ∧ ∃ t : Nat, (32 : Int) + off = (t : Int) ∧ ([168, 191, 204, 217, 250, 283, 316, 339, 372, 415, 428, 441, 464, 487, 500, 533, 556, 579, 602, 615, 648, 661, 674, 687, 710, 763, 796, 819, 842, 865] : List Nat)[j]? = some t := by
        intro j hj
        rcases (show j = 0 ∨ j = 1 ∨ j = 2 ∨ j = 3 ∨ j = 4 ∨ j = 5 ∨ j = 6 ∨ j = 7 ∨ j = 8 ∨ j = 9 ∨ j = 10 ∨ j = 11 ∨ j = 12 ∨ j = 13 ∨ j = 14 ∨ j = 15 ∨ j = 16 ∨ j = 17 ∨ j = 18 ∨ j = 19 ∨ j = 20 ∨ j = 21 ∨ j = 22 ∨ j = 23 ∨ j = 24 ∨ j = 25 ∨ j = 26 ∨ j = 27 ∨ j = 28 ∨ j = 29 by omega) with rfl | rfl | rfl | rfl | rfl | rfl | rfl | rfl | rfl | rfl | rfl | rfl | rfl | rfl | rfl | rfl | rfl | rfl | rfl | rfl | rfl | rfl | rfl | rfl | rfl | rfl | rfl | rfl | rfl | rfl
        all_goals exact ⟨_, rfl, _, rfl, rfl⟩
      obtain ⟨off, o1, t, o2, o3⟩ := ho j hj30
      exact lv_tableIn (tgt := t) hC.1.1 hC.1.2.1 dL_law_32 h1 h2 (by rw [hj, show ((j : Int) - 0).toNat = j by omega]; exact o1) o2 (key j t o3 H locs rl hP hS hl)
theorem l_loop (hC : LC x p s m meth c b L xs) (hL : L ≤ 320) (hk1 : kc ≤ 600000) (hk2 : ks ≤ 7302249) : ∀ (n i : Nat) (a : jA) (μ : jm_M), L ≤ i + n → i ≤ 400 → WA a → IC a μ → IM a μ → LW x p e s m below meth c b kc ks 18 (lvL x b i) [] μ := by
  intro n
  induction n with
  | zero =>
    intro i a μ h1 h2 hW h8 h9 H locs rl hP hS hl
    refine lv_iload_n hC.1.1 hC.1.2.1 dL_law_18 rfl (hl.2.2 (3, .int (nI i)) (List.mem_of_getElem? (i := 3) rfl)) ?_
    refine lv_aload_n hC.1.1 hC.1.2.1 dL_law_19 rfl (hl.2.2 (0, .ref b) (List.mem_of_getElem? (i := 0) rfl)) ?_
    refine va_slen hC.1.1 hC.1.2.1 hC.1.2.2.2.2.2.2.1 hC.1.2.2.2.2.2.2.2.1 (l_out hC) hS dL_law_20 ?_
    refine lv_iconst (v := nI 5) hC.1.1 hC.1.2.1 dL_law_21 (by decide) ?_
    refine lv_isub hC.1.1 hC.1.2.1 dL_law_22 ?_
    have e0 : Int32.ofNat L - nI 5 = jI ((L : Int) - 5) := by show nI L - nI 5 = _; rw [nI_jI, nI_jI, jI_sub]; rfl
    rw [e0]
    refine lv_icmp_gt (tgt := 885) hC.1.1 hC.1.2.1 dL_law_23 (by decide) (fun _ => lr_end hC hk1 hk2 H locs rl hP hS hl) (fun q => ?_)
    rw [nI_jI, jI_lt (by omega) (by omega) (by omega) (by omega)] at q
    omega
  | succ n ih =>
    intro i a μ h1 h2 hW h8 h9 H locs rl hP hS hl
    refine lv_iload_n hC.1.1 hC.1.2.1 dL_law_18 rfl (hl.2.2 (3, .int (nI i)) (List.mem_of_getElem? (i := 3) rfl)) ?_
    refine lv_aload_n hC.1.1 hC.1.2.1 dL_law_19 rfl (hl.2.2 (0, .ref b) (List.mem_of_getElem? (i := 0) rfl)) ?_
    refine va_slen hC.1.1 hC.1.2.1 hC.1.2.2.2.2.2.2.1 hC.1.2.2.2.2.2.2.2.1 (l_out hC) hS dL_law_20 ?_
    refine lv_iconst (v := nI 5) hC.1.1 hC.1.2.1 dL_law_21 (by decide) ?_
    refine lv_isub hC.1.1 hC.1.2.1 dL_law_22 ?_
    have e0 : Int32.ofNat L - nI 5 = jI ((L : Int) - 5) := by show nI L - nI 5 = _; rw [nI_jI, nI_jI, jI_sub]; rfl
    rw [e0]
    refine lv_icmp_gt (tgt := 885) hC.1.1 hC.1.2.1 dL_law_23 (by decide) (fun _ => lr_end hC hk1 hk2 H locs rl hP hS hl) (fun q => ?_)
    rw [nI_jI, jI_lt (by omega) (by omega) (by omega) (by omega)] at q
    have hi : i + 5 ≤ L := by omega
    refine lv_aload_n hC.1.1 hC.1.2.1 dL_law_26 rfl (hl.2.2 (0, .ref b) (List.mem_of_getElem? (i := 0) rfl)) ?_
    refine lv_iload_n hC.1.1 hC.1.2.1 dL_law_27 rfl (hl.2.2 (3, .int (nI i)) (List.mem_of_getElem? (i := 3) rfl)) ?_
    refine va_sld hC.1.1 hC.1.2.1 hC.1.2.2.2.2.2.2.1 hC.1.2.2.2.2.2.2.2.1 (l_out hC) hS (vp_in_nI (by omega) (by omega)) dL_law_28 ?_
    refine lv_bipush (v := nI 31) hC.1.1 hC.1.2.1 dL_law_29 (by decide) ?_
    refine lv_iand hC.1.1 hC.1.2.1 dL_law_31 ?_
    exact l_sw hC hL hi hk1 hk2 hW h8 h9 _ (fun a' ν w8 i8 i9 => lr_next hC (ih (i + 5) a' ν (by omega) (by omega) w8 i8 i9)) H locs rl hP hS hl
end LCASES
