/-! the law's cases -/
theorem cq62 : Cond.initialized RX7 ∈ WS := mw 62 (by decide +kernel) rfl
theorem cq70 : Cond.initialized RX8 ∈ WS := mw 70 (by decide +kernel) rfl
theorem cq314 : Cond.methodLink RL 13 yX7_jar ∈ WS := mw 314 (by decide +kernel) rfl
theorem cq315 : Cond.instanceMethod yX7_jar ∈ WS := mw 315 (by decide +kernel) rfl
theorem cq316 : Cond.selects RX7 yX7_jar yX7_jar ∈ WS := mw 316 (by decide +kernel) rfl
theorem cq317 : Cond.code yX7_jar cX7_jar 2 (some .int) ∈ WS := mw 317 (by decide +kernel) rfl
theorem cq365 : Cond.methodLink RL 18 yX7_pour ∈ WS := mw 365 (by decide +kernel) rfl
theorem cq366 : Cond.instanceMethod yX7_pour ∈ WS := mw 366 (by decide +kernel) rfl
theorem cq367 : Cond.selects RX7 yX7_pour yX7_pour ∈ WS := mw 367 (by decide +kernel) rfl
theorem cq368 : Cond.code yX7_pour cX7_pour 3 (some .int) ∈ WS := mw 368 (by decide +kernel) rfl
theorem cq385 : Cond.methodLink RL 23 yX7_more ∈ WS := mw 385 (by decide +kernel) rfl
theorem cq386 : Cond.instanceMethod yX7_more ∈ WS := mw 386 (by decide +kernel) rfl
theorem cq387 : Cond.selects RX7 yX7_more yX7_more ∈ WS := mw 387 (by decide +kernel) rfl
theorem cq388 : Cond.code yX7_more cX7_more 2 (some .int) ∈ WS := mw 388 (by decide +kernel) rfl
theorem cq396 : Cond.methodLink RL 27 yX7_throwAway ∈ WS := mw 396 (by decide +kernel) rfl
theorem cq397 : Cond.instanceMethod yX7_throwAway ∈ WS := mw 397 (by decide +kernel) rfl
theorem cq398 : Cond.selects RX7 yX7_throwAway yX7_throwAway ∈ WS := mw 398 (by decide +kernel) rfl
theorem cq399 : Cond.code yX7_throwAway cX7_throwAway 2 (some .int) ∈ WS := mw 399 (by decide +kernel) rfl
theorem cq408 : Cond.methodLink RL 31 yX7_rule ∈ WS := mw 408 (by decide +kernel) rfl
theorem cq409 : Cond.instanceMethod yX7_rule ∈ WS := mw 409 (by decide +kernel) rfl
theorem cq410 : Cond.selects RX7 yX7_rule yX7_rule ∈ WS := mw 410 (by decide +kernel) rfl
theorem cq411 : Cond.code yX7_rule cX7_rule 3 (some .int) ∈ WS := mw 411 (by decide +kernel) rfl
theorem cq454 : Cond.methodLink RL 35 yX7_drop ∈ WS := mw 454 (by decide +kernel) rfl
theorem cq455 : Cond.instanceMethod yX7_drop ∈ WS := mw 455 (by decide +kernel) rfl
theorem cq456 : Cond.selects RX7 yX7_drop yX7_drop ∈ WS := mw 456 (by decide +kernel) rfl
theorem cq457 : Cond.code yX7_drop cX7_drop 3 (some .int) ∈ WS := mw 457 (by decide +kernel) rfl
theorem cq466 : Cond.methodLink RL 39 yX7_price ∈ WS := mw 466 (by decide +kernel) rfl
theorem cq467 : Cond.instanceMethod yX7_price ∈ WS := mw 467 (by decide +kernel) rfl
theorem cq468 : Cond.selects RX7 yX7_price yX7_price ∈ WS := mw 468 (by decide +kernel) rfl
theorem cq469 : Cond.code yX7_price cX7_price 3 (some .int) ∈ WS := mw 469 (by decide +kernel) rfl
theorem cq474 : Cond.methodLink RL 43 yX7_want ∈ WS := mw 474 (by decide +kernel) rfl
theorem cq475 : Cond.instanceMethod yX7_want ∈ WS := mw 475 (by decide +kernel) rfl
theorem cq476 : Cond.selects RX7 yX7_want yX7_want ∈ WS := mw 476 (by decide +kernel) rfl
theorem cq477 : Cond.code yX7_want cX7_want 2 (some .int) ∈ WS := mw 477 (by decide +kernel) rfl
theorem cq482 : Cond.methodLink RL 47 yX7_serve ∈ WS := mw 482 (by decide +kernel) rfl
theorem cq483 : Cond.instanceMethod yX7_serve ∈ WS := mw 483 (by decide +kernel) rfl
theorem cq484 : Cond.selects RX7 yX7_serve yX7_serve ∈ WS := mw 484 (by decide +kernel) rfl
theorem cq485 : Cond.code yX7_serve cX7_serve 1 (some .int) ∈ WS := mw 485 (by decide +kernel) rfl
theorem cq508 : Cond.methodLink RL 52 yX7_type ∈ WS := mw 508 (by decide +kernel) rfl
theorem cq509 : Cond.instanceMethod yX7_type ∈ WS := mw 509 (by decide +kernel) rfl
theorem cq510 : Cond.selects RX7 yX7_type yX7_type ∈ WS := mw 510 (by decide +kernel) rfl
theorem cq511 : Cond.code yX7_type cX7_type 2 (some .int) ∈ WS := mw 511 (by decide +kernel) rfl
theorem cq516 : Cond.methodLink RL 57 yX7_clearText ∈ WS := mw 516 (by decide +kernel) rfl
theorem cq517 : Cond.instanceMethod yX7_clearText ∈ WS := mw 517 (by decide +kernel) rfl
theorem cq518 : Cond.selects RX7 yX7_clearText yX7_clearText ∈ WS := mw 518 (by decide +kernel) rfl
theorem cq519 : Cond.code yX7_clearText cX7_clearText 1 (some .int) ∈ WS := mw 519 (by decide +kernel) rfl
theorem cq524 : Cond.methodLink RL 61 yX7_fault ∈ WS := mw 524 (by decide +kernel) rfl
theorem cq525 : Cond.instanceMethod yX7_fault ∈ WS := mw 525 (by decide +kernel) rfl
theorem cq526 : Cond.selects RX7 yX7_fault yX7_fault ∈ WS := mw 526 (by decide +kernel) rfl
theorem cq527 : Cond.code yX7_fault cX7_fault 1 (some .int) ∈ WS := mw 527 (by decide +kernel) rfl
theorem cq638 : Cond.methodLink RL 65 yX7_doAll ∈ WS := mw 638 (by decide +kernel) rfl
theorem cq639 : Cond.instanceMethod yX7_doAll ∈ WS := mw 639 (by decide +kernel) rfl
theorem cq640 : Cond.selects RX7 yX7_doAll yX7_doAll ∈ WS := mw 640 (by decide +kernel) rfl
theorem cq641 : Cond.code yX7_doAll cX7_doAll 3 (some .int) ∈ WS := mw 641 (by decide +kernel) rfl
theorem cq667 : Cond.methodLink RL 69 yX7_undo ∈ WS := mw 667 (by decide +kernel) rfl
theorem cq668 : Cond.instanceMethod yX7_undo ∈ WS := mw 668 (by decide +kernel) rfl
theorem cq669 : Cond.selects RX7 yX7_undo yX7_undo ∈ WS := mw 669 (by decide +kernel) rfl
theorem cq670 : Cond.code yX7_undo cX7_undo 1 (some .int) ∈ WS := mw 670 (by decide +kernel) rfl
theorem cq676 : Cond.methodLink RL 73 yX7_keep ∈ WS := mw 676 (by decide +kernel) rfl
theorem cq677 : Cond.instanceMethod yX7_keep ∈ WS := mw 677 (by decide +kernel) rfl
theorem cq678 : Cond.selects RX7 yX7_keep yX7_keep ∈ WS := mw 678 (by decide +kernel) rfl
theorem cq679 : Cond.code yX7_keep cX7_keep 1 (some .int) ∈ WS := mw 679 (by decide +kernel) rfl
theorem cq681 : Cond.methodLink RL 77 yX7_restore ∈ WS := mw 681 (by decide +kernel) rfl
theorem cq682 : Cond.instanceMethod yX7_restore ∈ WS := mw 682 (by decide +kernel) rfl
theorem cq683 : Cond.selects RX7 yX7_restore yX7_restore ∈ WS := mw 683 (by decide +kernel) rfl
theorem cq684 : Cond.code yX7_restore cX7_restore 1 (some .int) ∈ WS := mw 684 (by decide +kernel) rfl
theorem cq685 : Cond.methodLink RL 81 yX7_jarOf ∈ WS := mw 685 (by decide +kernel) rfl
theorem cq686 : Cond.instanceMethod yX7_jarOf ∈ WS := mw 686 (by decide +kernel) rfl
theorem cq687 : Cond.selects RX7 yX7_jarOf yX7_jarOf ∈ WS := mw 687 (by decide +kernel) rfl
theorem cq688 : Cond.code yX7_jarOf cX7_jarOf 5 (some .int) ∈ WS := mw 688 (by decide +kernel) rfl
theorem cq714 : Cond.methodLink RL 85 yX7_ranked ∈ WS := mw 714 (by decide +kernel) rfl
theorem cq715 : Cond.instanceMethod yX7_ranked ∈ WS := mw 715 (by decide +kernel) rfl
theorem cq716 : Cond.selects RX7 yX7_ranked yX7_ranked ∈ WS := mw 716 (by decide +kernel) rfl
theorem cq717 : Cond.code yX7_ranked cX7_ranked 2 (some .int) ∈ WS := mw 717 (by decide +kernel) rfl
theorem cq718 : Cond.methodLink RL 89 yX7_ruleOf ∈ WS := mw 718 (by decide +kernel) rfl
theorem cq719 : Cond.instanceMethod yX7_ruleOf ∈ WS := mw 719 (by decide +kernel) rfl
theorem cq720 : Cond.selects RX7 yX7_ruleOf yX7_ruleOf ∈ WS := mw 720 (by decide +kernel) rfl
theorem cq721 : Cond.code yX7_ruleOf cX7_ruleOf 2 (some .int) ∈ WS := mw 721 (by decide +kernel) rfl
theorem cq722 : Cond.methodLink RL 93 yX7_mixOf ∈ WS := mw 722 (by decide +kernel) rfl
theorem cq723 : Cond.instanceMethod yX7_mixOf ∈ WS := mw 723 (by decide +kernel) rfl
theorem cq724 : Cond.selects RX7 yX7_mixOf yX7_mixOf ∈ WS := mw 724 (by decide +kernel) rfl
theorem cq725 : Cond.code yX7_mixOf cX7_mixOf 3 (some .int) ∈ WS := mw 725 (by decide +kernel) rfl
theorem cq732 : Cond.methodLink RL 97 yX7_together ∈ WS := mw 732 (by decide +kernel) rfl
theorem cq733 : Cond.instanceMethod yX7_together ∈ WS := mw 733 (by decide +kernel) rfl
theorem cq734 : Cond.selects RX7 yX7_together yX7_together ∈ WS := mw 734 (by decide +kernel) rfl
theorem cq735 : Cond.code yX7_together cX7_together 3 (some .int) ∈ WS := mw 735 (by decide +kernel) rfl
theorem cq737 : Cond.methodLink RL 101 yX7_alike ∈ WS := mw 737 (by decide +kernel) rfl
theorem cq738 : Cond.instanceMethod yX7_alike ∈ WS := mw 738 (by decide +kernel) rfl
theorem cq739 : Cond.selects RX7 yX7_alike yX7_alike ∈ WS := mw 739 (by decide +kernel) rfl
theorem cq740 : Cond.code yX7_alike cX7_alike 4 (some .int) ∈ WS := mw 740 (by decide +kernel) rfl
theorem cq745 : Cond.methodLink RL 106 yX7_shelf ∈ WS := mw 745 (by decide +kernel) rfl
theorem cq746 : Cond.instanceMethod yX7_shelf ∈ WS := mw 746 (by decide +kernel) rfl
theorem cq747 : Cond.selects RX7 yX7_shelf yX7_shelf ∈ WS := mw 747 (by decide +kernel) rfl
theorem cq748 : Cond.code yX7_shelf cX7_shelf 4 (some .int) ∈ WS := mw 748 (by decide +kernel) rfl
theorem cq766 : Cond.methodLink RL 110 yX7_waiting ∈ WS := mw 766 (by decide +kernel) rfl
theorem cq767 : Cond.instanceMethod yX7_waiting ∈ WS := mw 767 (by decide +kernel) rfl
theorem cq768 : Cond.selects RX7 yX7_waiting yX7_waiting ∈ WS := mw 768 (by decide +kernel) rfl
theorem cq769 : Cond.code yX7_waiting cX7_waiting 2 (some .int) ∈ WS := mw 769 (by decide +kernel) rfl
theorem cq770 : Cond.methodLink RL 114 yX7_count ∈ WS := mw 770 (by decide +kernel) rfl
theorem cq771 : Cond.instanceMethod yX7_count ∈ WS := mw 771 (by decide +kernel) rfl
theorem cq772 : Cond.selects RX7 yX7_count yX7_count ∈ WS := mw 772 (by decide +kernel) rfl
theorem cq773 : Cond.code yX7_count cX7_count 2 (some .int) ∈ WS := mw 773 (by decide +kernel) rfl
theorem cq786 : Cond.methodLink RL 118 yX7_lost ∈ WS := mw 786 (by decide +kernel) rfl
theorem cq787 : Cond.instanceMethod yX7_lost ∈ WS := mw 787 (by decide +kernel) rfl
theorem cq788 : Cond.selects RX7 yX7_lost yX7_lost ∈ WS := mw 788 (by decide +kernel) rfl
theorem cq789 : Cond.code yX7_lost cX7_lost 2 (some .double) ∈ WS := mw 789 (by decide +kernel) rfl
theorem cq790 : Cond.methodLink RL 123 yX7_fewest ∈ WS := mw 790 (by decide +kernel) rfl
theorem cq791 : Cond.instanceMethod yX7_fewest ∈ WS := mw 791 (by decide +kernel) rfl
theorem cq792 : Cond.selects RX7 yX7_fewest yX7_fewest ∈ WS := mw 792 (by decide +kernel) rfl
theorem cq793 : Cond.code yX7_fewest cX7_fewest 4 (some .int) ∈ WS := mw 793 (by decide +kernel) rfl
theorem cq811 : Cond.methodLink RL 127 yX7_makes ∈ WS := mw 811 (by decide +kernel) rfl
theorem cq812 : Cond.instanceMethod yX7_makes ∈ WS := mw 812 (by decide +kernel) rfl
theorem cq813 : Cond.selects RX7 yX7_makes yX7_makes ∈ WS := mw 813 (by decide +kernel) rfl
theorem cq814 : Cond.code yX7_makes cX7_makes 1 (some .int) ∈ WS := mw 814 (by decide +kernel) rfl
theorem cq820 : Cond.methodLink RL 131 yX7_needless ∈ WS := mw 820 (by decide +kernel) rfl
theorem cq821 : Cond.instanceMethod yX7_needless ∈ WS := mw 821 (by decide +kernel) rfl
theorem cq822 : Cond.selects RX7 yX7_needless yX7_needless ∈ WS := mw 822 (by decide +kernel) rfl
theorem cq823 : Cond.code yX7_needless cX7_needless 1 (some .int) ∈ WS := mw 823 (by decide +kernel) rfl
theorem cq828 : Cond.methodLink RL 135 yX7_ifPoured ∈ WS := mw 828 (by decide +kernel) rfl
theorem cq829 : Cond.instanceMethod yX7_ifPoured ∈ WS := mw 829 (by decide +kernel) rfl
theorem cq830 : Cond.selects RX7 yX7_ifPoured yX7_ifPoured ∈ WS := mw 830 (by decide +kernel) rfl
theorem cq831 : Cond.code yX7_ifPoured cX7_ifPoured 5 (some .int) ∈ WS := mw 831 (by decide +kernel) rfl
theorem cq897 : Cond.methodLink RL 17 yX8_jar ∈ WS := mw 897 (by decide +kernel) rfl
theorem cq898 : Cond.instanceMethod yX8_jar ∈ WS := mw 898 (by decide +kernel) rfl
theorem cq899 : Cond.selects RX8 yX8_jar yX8_jar ∈ WS := mw 899 (by decide +kernel) rfl
theorem cq900 : Cond.code yX8_jar cX8_jar 2 (some .int) ∈ WS := mw 900 (by decide +kernel) rfl
theorem cq926 : Cond.methodLink RL 22 yX8_pour ∈ WS := mw 926 (by decide +kernel) rfl
theorem cq927 : Cond.instanceMethod yX8_pour ∈ WS := mw 927 (by decide +kernel) rfl
theorem cq928 : Cond.selects RX8 yX8_pour yX8_pour ∈ WS := mw 928 (by decide +kernel) rfl
theorem cq929 : Cond.code yX8_pour cX8_pour 3 (some .int) ∈ WS := mw 929 (by decide +kernel) rfl
theorem cq949 : Cond.methodLink RL 26 yX8_more ∈ WS := mw 949 (by decide +kernel) rfl
theorem cq950 : Cond.instanceMethod yX8_more ∈ WS := mw 950 (by decide +kernel) rfl
theorem cq951 : Cond.selects RX8 yX8_more yX8_more ∈ WS := mw 951 (by decide +kernel) rfl
theorem cq952 : Cond.code yX8_more cX8_more 2 (some .int) ∈ WS := mw 952 (by decide +kernel) rfl
theorem cq957 : Cond.methodLink RL 30 yX8_throwAway ∈ WS := mw 957 (by decide +kernel) rfl
theorem cq958 : Cond.instanceMethod yX8_throwAway ∈ WS := mw 958 (by decide +kernel) rfl
theorem cq959 : Cond.selects RX8 yX8_throwAway yX8_throwAway ∈ WS := mw 959 (by decide +kernel) rfl
theorem cq960 : Cond.code yX8_throwAway cX8_throwAway 4 (some .int) ∈ WS := mw 960 (by decide +kernel) rfl
theorem cq965 : Cond.methodLink RL 34 yX8_rule ∈ WS := mw 965 (by decide +kernel) rfl
theorem cq966 : Cond.instanceMethod yX8_rule ∈ WS := mw 966 (by decide +kernel) rfl
theorem cq967 : Cond.selects RX8 yX8_rule yX8_rule ∈ WS := mw 967 (by decide +kernel) rfl
theorem cq968 : Cond.code yX8_rule cX8_rule 2 (some .int) ∈ WS := mw 968 (by decide +kernel) rfl
theorem cq985 : Cond.methodLink RL 38 yX8_drop ∈ WS := mw 985 (by decide +kernel) rfl
theorem cq986 : Cond.instanceMethod yX8_drop ∈ WS := mw 986 (by decide +kernel) rfl
theorem cq987 : Cond.selects RX8 yX8_drop yX8_drop ∈ WS := mw 987 (by decide +kernel) rfl
theorem cq988 : Cond.code yX8_drop cX8_drop 2 (some .int) ∈ WS := mw 988 (by decide +kernel) rfl
theorem cq993 : Cond.methodLink RL 42 yX8_price ∈ WS := mw 993 (by decide +kernel) rfl
theorem cq994 : Cond.instanceMethod yX8_price ∈ WS := mw 994 (by decide +kernel) rfl
theorem cq995 : Cond.selects RX8 yX8_price yX8_price ∈ WS := mw 995 (by decide +kernel) rfl
theorem cq996 : Cond.code yX8_price cX8_price 4 (some .int) ∈ WS := mw 996 (by decide +kernel) rfl
theorem cq997 : Cond.methodLink RL 46 yX8_want ∈ WS := mw 997 (by decide +kernel) rfl
theorem cq998 : Cond.instanceMethod yX8_want ∈ WS := mw 998 (by decide +kernel) rfl
theorem cq999 : Cond.selects RX8 yX8_want yX8_want ∈ WS := mw 999 (by decide +kernel) rfl
theorem cq1000 : Cond.code yX8_want cX8_want 2 (some .int) ∈ WS := mw 1000 (by decide +kernel) rfl
theorem cq1005 : Cond.methodLink RL 51 yX8_serve ∈ WS := mw 1005 (by decide +kernel) rfl
theorem cq1006 : Cond.instanceMethod yX8_serve ∈ WS := mw 1006 (by decide +kernel) rfl
theorem cq1007 : Cond.selects RX8 yX8_serve yX8_serve ∈ WS := mw 1007 (by decide +kernel) rfl
theorem cq1008 : Cond.code yX8_serve cX8_serve 1 (some .int) ∈ WS := mw 1008 (by decide +kernel) rfl
theorem cq1017 : Cond.methodLink RL 56 yX8_type ∈ WS := mw 1017 (by decide +kernel) rfl
theorem cq1018 : Cond.instanceMethod yX8_type ∈ WS := mw 1018 (by decide +kernel) rfl
theorem cq1019 : Cond.selects RX8 yX8_type yX8_type ∈ WS := mw 1019 (by decide +kernel) rfl
theorem cq1020 : Cond.code yX8_type cX8_type 2 (some .int) ∈ WS := mw 1020 (by decide +kernel) rfl
theorem cq1021 : Cond.methodLink RL 60 yX8_clearText ∈ WS := mw 1021 (by decide +kernel) rfl
theorem cq1022 : Cond.instanceMethod yX8_clearText ∈ WS := mw 1022 (by decide +kernel) rfl
theorem cq1023 : Cond.selects RX8 yX8_clearText yX8_clearText ∈ WS := mw 1023 (by decide +kernel) rfl
theorem cq1024 : Cond.code yX8_clearText cX8_clearText 2 (some .int) ∈ WS := mw 1024 (by decide +kernel) rfl
theorem cq1025 : Cond.methodLink RL 64 yX8_fault ∈ WS := mw 1025 (by decide +kernel) rfl
theorem cq1026 : Cond.instanceMethod yX8_fault ∈ WS := mw 1026 (by decide +kernel) rfl
theorem cq1027 : Cond.selects RX8 yX8_fault yX8_fault ∈ WS := mw 1027 (by decide +kernel) rfl
theorem cq1028 : Cond.code yX8_fault cX8_fault 2 (some .int) ∈ WS := mw 1028 (by decide +kernel) rfl
theorem cq1060 : Cond.methodLink RL 68 yX8_doAll ∈ WS := mw 1060 (by decide +kernel) rfl
theorem cq1061 : Cond.instanceMethod yX8_doAll ∈ WS := mw 1061 (by decide +kernel) rfl
theorem cq1062 : Cond.selects RX8 yX8_doAll yX8_doAll ∈ WS := mw 1062 (by decide +kernel) rfl
theorem cq1063 : Cond.code yX8_doAll cX8_doAll 2 (some .int) ∈ WS := mw 1063 (by decide +kernel) rfl
theorem cq1064 : Cond.methodLink RL 72 yX8_undo ∈ WS := mw 1064 (by decide +kernel) rfl
theorem cq1065 : Cond.instanceMethod yX8_undo ∈ WS := mw 1065 (by decide +kernel) rfl
theorem cq1066 : Cond.selects RX8 yX8_undo yX8_undo ∈ WS := mw 1066 (by decide +kernel) rfl
theorem cq1067 : Cond.code yX8_undo cX8_undo 2 (some .int) ∈ WS := mw 1067 (by decide +kernel) rfl
theorem cq1068 : Cond.methodLink RL 76 yX8_keep ∈ WS := mw 1068 (by decide +kernel) rfl
theorem cq1069 : Cond.instanceMethod yX8_keep ∈ WS := mw 1069 (by decide +kernel) rfl
theorem cq1070 : Cond.selects RX8 yX8_keep yX8_keep ∈ WS := mw 1070 (by decide +kernel) rfl
theorem cq1071 : Cond.code yX8_keep cX8_keep 2 (some .int) ∈ WS := mw 1071 (by decide +kernel) rfl
theorem cq1072 : Cond.methodLink RL 80 yX8_restore ∈ WS := mw 1072 (by decide +kernel) rfl
theorem cq1073 : Cond.instanceMethod yX8_restore ∈ WS := mw 1073 (by decide +kernel) rfl
theorem cq1074 : Cond.selects RX8 yX8_restore yX8_restore ∈ WS := mw 1074 (by decide +kernel) rfl
theorem cq1075 : Cond.code yX8_restore cX8_restore 2 (some .int) ∈ WS := mw 1075 (by decide +kernel) rfl
theorem cq1076 : Cond.methodLink RL 84 yX8_jarOf ∈ WS := mw 1076 (by decide +kernel) rfl
theorem cq1077 : Cond.instanceMethod yX8_jarOf ∈ WS := mw 1077 (by decide +kernel) rfl
theorem cq1078 : Cond.selects RX8 yX8_jarOf yX8_jarOf ∈ WS := mw 1078 (by decide +kernel) rfl
theorem cq1079 : Cond.code yX8_jarOf cX8_jarOf 5 (some .int) ∈ WS := mw 1079 (by decide +kernel) rfl
theorem cq1088 : Cond.methodLink RL 88 yX8_ranked ∈ WS := mw 1088 (by decide +kernel) rfl
theorem cq1089 : Cond.instanceMethod yX8_ranked ∈ WS := mw 1089 (by decide +kernel) rfl
theorem cq1090 : Cond.selects RX8 yX8_ranked yX8_ranked ∈ WS := mw 1090 (by decide +kernel) rfl
theorem cq1091 : Cond.code yX8_ranked cX8_ranked 2 (some .int) ∈ WS := mw 1091 (by decide +kernel) rfl
theorem cq1092 : Cond.methodLink RL 92 yX8_ruleOf ∈ WS := mw 1092 (by decide +kernel) rfl
theorem cq1093 : Cond.instanceMethod yX8_ruleOf ∈ WS := mw 1093 (by decide +kernel) rfl
theorem cq1094 : Cond.selects RX8 yX8_ruleOf yX8_ruleOf ∈ WS := mw 1094 (by decide +kernel) rfl
theorem cq1095 : Cond.code yX8_ruleOf cX8_ruleOf 2 (some .int) ∈ WS := mw 1095 (by decide +kernel) rfl
theorem cq1096 : Cond.methodLink RL 96 yX8_mixOf ∈ WS := mw 1096 (by decide +kernel) rfl
theorem cq1097 : Cond.instanceMethod yX8_mixOf ∈ WS := mw 1097 (by decide +kernel) rfl
theorem cq1098 : Cond.selects RX8 yX8_mixOf yX8_mixOf ∈ WS := mw 1098 (by decide +kernel) rfl
theorem cq1099 : Cond.code yX8_mixOf cX8_mixOf 3 (some .int) ∈ WS := mw 1099 (by decide +kernel) rfl
theorem cq1104 : Cond.methodLink RL 100 yX8_together ∈ WS := mw 1104 (by decide +kernel) rfl
theorem cq1105 : Cond.instanceMethod yX8_together ∈ WS := mw 1105 (by decide +kernel) rfl
theorem cq1106 : Cond.selects RX8 yX8_together yX8_together ∈ WS := mw 1106 (by decide +kernel) rfl
theorem cq1107 : Cond.code yX8_together cX8_together 3 (some .int) ∈ WS := mw 1107 (by decide +kernel) rfl
theorem cq1108 : Cond.methodLink RL 105 yX8_alike ∈ WS := mw 1108 (by decide +kernel) rfl
theorem cq1109 : Cond.instanceMethod yX8_alike ∈ WS := mw 1109 (by decide +kernel) rfl
theorem cq1110 : Cond.selects RX8 yX8_alike yX8_alike ∈ WS := mw 1110 (by decide +kernel) rfl
theorem cq1111 : Cond.code yX8_alike cX8_alike 5 (some .int) ∈ WS := mw 1111 (by decide +kernel) rfl
theorem cq1112 : Cond.methodLink RL 109 yX8_shelf ∈ WS := mw 1112 (by decide +kernel) rfl
theorem cq1113 : Cond.instanceMethod yX8_shelf ∈ WS := mw 1113 (by decide +kernel) rfl
theorem cq1114 : Cond.selects RX8 yX8_shelf yX8_shelf ∈ WS := mw 1114 (by decide +kernel) rfl
theorem cq1115 : Cond.code yX8_shelf cX8_shelf 7 (some .int) ∈ WS := mw 1115 (by decide +kernel) rfl
theorem cq1120 : Cond.methodLink RL 113 yX8_waiting ∈ WS := mw 1120 (by decide +kernel) rfl
theorem cq1121 : Cond.instanceMethod yX8_waiting ∈ WS := mw 1121 (by decide +kernel) rfl
theorem cq1122 : Cond.selects RX8 yX8_waiting yX8_waiting ∈ WS := mw 1122 (by decide +kernel) rfl
theorem cq1123 : Cond.code yX8_waiting cX8_waiting 2 (some .int) ∈ WS := mw 1123 (by decide +kernel) rfl
theorem cq1124 : Cond.methodLink RL 117 yX8_count ∈ WS := mw 1124 (by decide +kernel) rfl
theorem cq1125 : Cond.instanceMethod yX8_count ∈ WS := mw 1125 (by decide +kernel) rfl
theorem cq1126 : Cond.selects RX8 yX8_count yX8_count ∈ WS := mw 1126 (by decide +kernel) rfl
theorem cq1127 : Cond.code yX8_count cX8_count 2 (some .int) ∈ WS := mw 1127 (by decide +kernel) rfl
theorem cq1136 : Cond.methodLink RL 122 yX8_lost ∈ WS := mw 1136 (by decide +kernel) rfl
theorem cq1137 : Cond.instanceMethod yX8_lost ∈ WS := mw 1137 (by decide +kernel) rfl
theorem cq1138 : Cond.selects RX8 yX8_lost yX8_lost ∈ WS := mw 1138 (by decide +kernel) rfl
theorem cq1139 : Cond.code yX8_lost cX8_lost 1 (some .double) ∈ WS := mw 1139 (by decide +kernel) rfl
theorem cq1140 : Cond.methodLink RL 126 yX8_fewest ∈ WS := mw 1140 (by decide +kernel) rfl
theorem cq1141 : Cond.instanceMethod yX8_fewest ∈ WS := mw 1141 (by decide +kernel) rfl
theorem cq1142 : Cond.selects RX8 yX8_fewest yX8_fewest ∈ WS := mw 1142 (by decide +kernel) rfl
theorem cq1143 : Cond.code yX8_fewest cX8_fewest 8 (some .int) ∈ WS := mw 1143 (by decide +kernel) rfl
theorem cq1151 : Cond.methodLink RL 130 yX8_makes ∈ WS := mw 1151 (by decide +kernel) rfl
theorem cq1152 : Cond.instanceMethod yX8_makes ∈ WS := mw 1152 (by decide +kernel) rfl
theorem cq1153 : Cond.selects RX8 yX8_makes yX8_makes ∈ WS := mw 1153 (by decide +kernel) rfl
theorem cq1154 : Cond.code yX8_makes cX8_makes 5 (some .int) ∈ WS := mw 1154 (by decide +kernel) rfl
theorem cq1155 : Cond.methodLink RL 134 yX8_needless ∈ WS := mw 1155 (by decide +kernel) rfl
theorem cq1156 : Cond.instanceMethod yX8_needless ∈ WS := mw 1156 (by decide +kernel) rfl
theorem cq1157 : Cond.selects RX8 yX8_needless yX8_needless ∈ WS := mw 1157 (by decide +kernel) rfl
theorem cq1158 : Cond.code yX8_needless cX8_needless 4 (some .int) ∈ WS := mw 1158 (by decide +kernel) rfl
theorem cq1159 : Cond.methodLink RL 138 yX8_ifPoured ∈ WS := mw 1159 (by decide +kernel) rfl
theorem cq1160 : Cond.instanceMethod yX8_ifPoured ∈ WS := mw 1160 (by decide +kernel) rfl
theorem cq1161 : Cond.selects RX8 yX8_ifPoured yX8_ifPoured ∈ WS := mw 1161 (by decide +kernel) rfl
theorem cq1162 : Cond.code yX8_ifPoured cX8_ifPoured 5 (some .int) ∈ WS := mw 1162 (by decide +kernel) rfl
theorem cl_X7_jar : CL YX7_jar 1 := ⟨cq62, cq317, ⟨by decide +kernel, by decide +kernel, by decide +kernel⟩, by decide⟩
theorem cl_X8_jar : CL YX8_jar 1 := ⟨cq70, cq900, ⟨by decide +kernel, by decide +kernel, by decide +kernel⟩, by decide⟩
theorem cl_X7_pour : CL YX7_pour 2 := ⟨cq62, cq368, ⟨by decide +kernel, by decide +kernel, by decide +kernel⟩, by decide⟩
theorem cl_X8_pour : CL YX8_pour 2 := ⟨cq70, cq929, ⟨by decide +kernel, by decide +kernel, by decide +kernel⟩, by decide⟩
theorem cl_X7_more : CL YX7_more 1 := ⟨cq62, cq388, ⟨by decide +kernel, by decide +kernel, by decide +kernel⟩, by decide⟩
theorem cl_X8_more : CL YX8_more 1 := ⟨cq70, cq952, ⟨by decide +kernel, by decide +kernel, by decide +kernel⟩, by decide⟩
theorem cl_X7_throwAway : CL YX7_throwAway 1 := ⟨cq62, cq399, ⟨by decide +kernel, by decide +kernel, by decide +kernel⟩, by decide⟩
theorem cl_X8_throwAway : CL YX8_throwAway 1 := ⟨cq70, cq960, ⟨by decide +kernel, by decide +kernel, by decide +kernel⟩, by decide⟩
theorem cl_X7_rule : CL YX7_rule 1 := ⟨cq62, cq411, ⟨by decide +kernel, by decide +kernel, by decide +kernel⟩, by decide⟩
theorem cl_X8_rule : CL YX8_rule 1 := ⟨cq70, cq968, ⟨by decide +kernel, by decide +kernel, by decide +kernel⟩, by decide⟩
theorem cl_X7_drop : CL YX7_drop 1 := ⟨cq62, cq457, ⟨by decide +kernel, by decide +kernel, by decide +kernel⟩, by decide⟩
theorem cl_X8_drop : CL YX8_drop 1 := ⟨cq70, cq988, ⟨by decide +kernel, by decide +kernel, by decide +kernel⟩, by decide⟩
theorem cl_X7_price : CL YX7_price 2 := ⟨cq62, cq469, ⟨by decide +kernel, by decide +kernel, by decide +kernel⟩, by decide⟩
theorem cl_X8_price : CL YX8_price 2 := ⟨cq70, cq996, ⟨by decide +kernel, by decide +kernel, by decide +kernel⟩, by decide⟩
theorem cl_X7_want : CL YX7_want 1 := ⟨cq62, cq477, ⟨by decide +kernel, by decide +kernel, by decide +kernel⟩, by decide⟩
theorem cl_X8_want : CL YX8_want 1 := ⟨cq70, cq1000, ⟨by decide +kernel, by decide +kernel, by decide +kernel⟩, by decide⟩
theorem cl_X7_serve : CL YX7_serve 0 := ⟨cq62, cq485, ⟨by decide +kernel, by decide +kernel, by decide +kernel⟩, by decide⟩
theorem cl_X8_serve : CL YX8_serve 0 := ⟨cq70, cq1008, ⟨by decide +kernel, by decide +kernel, by decide +kernel⟩, by decide⟩
theorem cl_X7_type : CL YX7_type 1 := ⟨cq62, cq511, ⟨by decide +kernel, by decide +kernel, by decide +kernel⟩, by decide⟩
theorem cl_X8_type : CL YX8_type 1 := ⟨cq70, cq1020, ⟨by decide +kernel, by decide +kernel, by decide +kernel⟩, by decide⟩
theorem cl_X7_clearText : CL YX7_clearText 0 := ⟨cq62, cq519, ⟨by decide +kernel, by decide +kernel, by decide +kernel⟩, by decide⟩
theorem cl_X8_clearText : CL YX8_clearText 0 := ⟨cq70, cq1024, ⟨by decide +kernel, by decide +kernel, by decide +kernel⟩, by decide⟩
theorem cl_X7_fault : CL YX7_fault 0 := ⟨cq62, cq527, ⟨by decide +kernel, by decide +kernel, by decide +kernel⟩, by decide⟩
theorem cl_X8_fault : CL YX8_fault 0 := ⟨cq70, cq1028, ⟨by decide +kernel, by decide +kernel, by decide +kernel⟩, by decide⟩
theorem cl_X7_doAll : CL YX7_doAll 0 := ⟨cq62, cq641, ⟨by decide +kernel, by decide +kernel, by decide +kernel⟩, by decide⟩
theorem cl_X8_doAll : CL YX8_doAll 0 := ⟨cq70, cq1063, ⟨by decide +kernel, by decide +kernel, by decide +kernel⟩, by decide⟩
theorem cl_X7_undo : CL YX7_undo 0 := ⟨cq62, cq670, ⟨by decide +kernel, by decide +kernel, by decide +kernel⟩, by decide⟩
theorem cl_X8_undo : CL YX8_undo 0 := ⟨cq70, cq1067, ⟨by decide +kernel, by decide +kernel, by decide +kernel⟩, by decide⟩
theorem cl_X7_keep : CL YX7_keep 0 := ⟨cq62, cq679, ⟨by decide +kernel, by decide +kernel, by decide +kernel⟩, by decide⟩
theorem cl_X8_keep : CL YX8_keep 0 := ⟨cq70, cq1071, ⟨by decide +kernel, by decide +kernel, by decide +kernel⟩, by decide⟩
theorem cl_X7_restore : CL YX7_restore 0 := ⟨cq62, cq684, ⟨by decide +kernel, by decide +kernel, by decide +kernel⟩, by decide⟩
theorem cl_X8_restore : CL YX8_restore 0 := ⟨cq70, cq1075, ⟨by decide +kernel, by decide +kernel, by decide +kernel⟩, by decide⟩
theorem cl_X7_jarOf : CL YX7_jarOf 2 := ⟨cq62, cq688, ⟨by decide +kernel, by decide +kernel, by decide +kernel⟩, by decide⟩
theorem cl_X8_jarOf : CL YX8_jarOf 2 := ⟨cq70, cq1079, ⟨by decide +kernel, by decide +kernel, by decide +kernel⟩, by decide⟩
theorem cl_X7_ranked : CL YX7_ranked 1 := ⟨cq62, cq717, ⟨by decide +kernel, by decide +kernel, by decide +kernel⟩, by decide⟩
theorem cl_X8_ranked : CL YX8_ranked 1 := ⟨cq70, cq1091, ⟨by decide +kernel, by decide +kernel, by decide +kernel⟩, by decide⟩
theorem cl_X7_ruleOf : CL YX7_ruleOf 1 := ⟨cq62, cq721, ⟨by decide +kernel, by decide +kernel, by decide +kernel⟩, by decide⟩
theorem cl_X8_ruleOf : CL YX8_ruleOf 1 := ⟨cq70, cq1095, ⟨by decide +kernel, by decide +kernel, by decide +kernel⟩, by decide⟩
theorem cl_X7_mixOf : CL YX7_mixOf 2 := ⟨cq62, cq725, ⟨by decide +kernel, by decide +kernel, by decide +kernel⟩, by decide⟩
theorem cl_X8_mixOf : CL YX8_mixOf 2 := ⟨cq70, cq1099, ⟨by decide +kernel, by decide +kernel, by decide +kernel⟩, by decide⟩
theorem cl_X7_together : CL YX7_together 2 := ⟨cq62, cq735, ⟨by decide +kernel, by decide +kernel, by decide +kernel⟩, by decide⟩
theorem cl_X8_together : CL YX8_together 2 := ⟨cq70, cq1107, ⟨by decide +kernel, by decide +kernel, by decide +kernel⟩, by decide⟩
theorem cl_X7_alike : CL YX7_alike 3 := ⟨cq62, cq740, ⟨by decide +kernel, by decide +kernel, by decide +kernel⟩, by decide⟩
theorem cl_X8_alike : CL YX8_alike 3 := ⟨cq70, cq1111, ⟨by decide +kernel, by decide +kernel, by decide +kernel⟩, by decide⟩
theorem cl_X7_shelf : CL YX7_shelf 2 := ⟨cq62, cq748, ⟨by decide +kernel, by decide +kernel, by decide +kernel⟩, by decide⟩
theorem cl_X8_shelf : CL YX8_shelf 2 := ⟨cq70, cq1115, ⟨by decide +kernel, by decide +kernel, by decide +kernel⟩, by decide⟩
theorem cl_X7_waiting : CL YX7_waiting 1 := ⟨cq62, cq769, ⟨by decide +kernel, by decide +kernel, by decide +kernel⟩, by decide⟩
theorem cl_X8_waiting : CL YX8_waiting 1 := ⟨cq70, cq1123, ⟨by decide +kernel, by decide +kernel, by decide +kernel⟩, by decide⟩
theorem cl_X7_count : CL YX7_count 1 := ⟨cq62, cq773, ⟨by decide +kernel, by decide +kernel, by decide +kernel⟩, by decide⟩
theorem cl_X8_count : CL YX8_count 1 := ⟨cq70, cq1127, ⟨by decide +kernel, by decide +kernel, by decide +kernel⟩, by decide⟩
theorem cl_X7_fewest : CL YX7_fewest 2 := ⟨cq62, cq793, ⟨by decide +kernel, by decide +kernel, by decide +kernel⟩, by decide⟩
theorem cl_X8_fewest : CL YX8_fewest 2 := ⟨cq70, cq1143, ⟨by decide +kernel, by decide +kernel, by decide +kernel⟩, by decide⟩
theorem cl_X7_makes : CL YX7_makes 0 := ⟨cq62, cq814, ⟨by decide +kernel, by decide +kernel, by decide +kernel⟩, by decide⟩
theorem cl_X8_makes : CL YX8_makes 0 := ⟨cq70, cq1154, ⟨by decide +kernel, by decide +kernel, by decide +kernel⟩, by decide⟩
theorem cl_X7_needless : CL YX7_needless 0 := ⟨cq62, cq823, ⟨by decide +kernel, by decide +kernel, by decide +kernel⟩, by decide⟩
theorem cl_X8_needless : CL YX8_needless 0 := ⟨cq70, cq1158, ⟨by decide +kernel, by decide +kernel, by decide +kernel⟩, by decide⟩
theorem cl_X7_ifPoured : CL YX7_ifPoured 2 := ⟨cq62, cq831, ⟨by decide +kernel, by decide +kernel, by decide +kernel⟩, by decide⟩
theorem cl_X8_ifPoured : CL YX8_ifPoured 2 := ⟨cq70, cq1162, ⟨by decide +kernel, by decide +kernel, by decide +kernel⟩, by decide⟩
theorem cl_X7_lost : CL YX7_lost 0 := ⟨cq62, cq789, ⟨by decide +kernel, by decide +kernel, by decide +kernel⟩, by decide⟩
theorem cl_X8_lost : CL YX8_lost 0 := ⟨cq70, cq1139, ⟨by decide +kernel, by decide +kernel, by decide +kernel⟩, by decide⟩
theorem nch_in (x : Int) : inR (nch x) := by have := nch_b x; unfold inR; omega
section LAWC
variable {p : Program} {l : Launch} {e : Env} {s : State} {m : MethodId} {args : Array Value} {below : List Frame} {meth : Method} {c : Code} {Q : State → Prop} {D : va_G} {ca : Nat → ClassId} {A : Nat → Prop} {cells slots : Nat} {ls : Array Slot} {aX aM : Nat → Nat} {ν μ : Mem} {b L i : Nat} {xs : Nat → Int32} {t : Int}
set_option maxRecDepth 100000 in
theorem law_0 (X : LE D ca aX aM p s m args c A b L xs cells slots) (hN : RM ν) (hM : RM μ) (h0 : 0 ≤ t) (ht : t ≤ 900000000) (M : MI μ t) (I : XI ν μ) (hi : i + 3 < L) (hl : lv_has ls 8 [(3, .int (Int32.ofInt i)), (2, .ref (aM 0)), (1, .ref (aX 0)), (0, .ref b)]) (kend : ∀ (ν' μ' : Mem) (ls' : Array Slot), RM ν' → RM μ' → MI μ' (t + 1500000) → XI ν' μ' → lv_has ls' 8 [(3, .int (Int32.ofInt i)), (2, .ref (aM 0)), (1, .ref (aX 0)), (0, .ref b)] → LJ p l e s m args below meth c Q D ca A aX aM ν' μ' cells slots 904 ls' []) : LJ p l e s m args below meth c Q D ca A aX aM ν μ cells slots 168 ls [] := by
  obtain ⟨r, μ', ν', em, ex, M', I'⟩ := sim_jar ((xs (i + 1)).toInt) μ ν t h0 ht M I
  refine LJ.aload X dL_law_168 rfl (lv_at hl 2 rfl) ?_
  refine LJ.rd X (lv_at hl 3 rfl) (lv_at hl 0 rfl) (k := 1) (by omega) dL_law_169 dL_law_170 dL_law_171 dL_law_172 dL_law_173 ?_
  refine LJ.callX (as := [.inl ((xs (i + 1)).toInt)]) (e_xx_jar ex) X hN (RS_cons (to_in _) RS_nil) rfl cl_X7_jar hl.1 (Nat.le_of_ble_eq_true rfl) cq314 cq315 cq316 rfl dL_law_174 (fun hN' => ?_)
  refine LJ.aload X dL_law_177 rfl (lv_at hl 1 rfl) ?_
  refine LJ.rd X (lv_at hl 3 rfl) (lv_at hl 0 rfl) (k := 1) (by omega) dL_law_178 dL_law_179 dL_law_180 dL_law_181 dL_law_182 ?_
  refine LJ.callM (as := [.inl ((xs (i + 1)).toInt)]) (e_mm_jar em) X hM (RS_cons (to_in _) RS_nil) rfl cl_X8_jar hl.1 (Nat.le_of_ble_eq_true rfl) cq897 cq898 cq899 rfl dL_law_183 (fun hM' => ?_)
  refine LJ.eq_y X 904 dL_law_186 (by decide) ?_
  exact kend ν' μ' ls hN' hM' M' I' hl
set_option maxRecDepth 100000 in
theorem law_1 (X : LE D ca aX aM p s m args c A b L xs cells slots) (hN : RM ν) (hM : RM μ) (h0 : 0 ≤ t) (ht : t ≤ 900000000) (M : MI μ t) (I : XI ν μ) (hi : i + 3 < L) (hl : lv_has ls 8 [(3, .int (Int32.ofInt i)), (2, .ref (aM 0)), (1, .ref (aX 0)), (0, .ref b)]) (kend : ∀ (ν' μ' : Mem) (ls' : Array Slot), RM ν' → RM μ' → MI μ' (t + 1500000) → XI ν' μ' → lv_has ls' 8 [(3, .int (Int32.ofInt i)), (2, .ref (aM 0)), (1, .ref (aX 0)), (0, .ref b)] → LJ p l e s m args below meth c Q D ca A aX aM ν' μ' cells slots 904 ls' []) : LJ p l e s m args below meth c Q D ca A aX aM ν μ cells slots 191 ls [] := by
  obtain ⟨r, μ', ν', em, ex, M', I'⟩ := sim_pour ((xs (i + 1)).toInt) ((xs (i + 2)).toInt) μ ν t h0 ht M I
  refine LJ.aload X dL_law_191 rfl (lv_at hl 2 rfl) ?_
  refine LJ.rd X (lv_at hl 3 rfl) (lv_at hl 0 rfl) (k := 1) (by omega) dL_law_192 dL_law_193 dL_law_194 dL_law_195 dL_law_196 ?_
  refine LJ.rd X (lv_at hl 3 rfl) (lv_at hl 0 rfl) (k := 2) (by omega) dL_law_197 dL_law_198 dL_law_199 dL_law_200 dL_law_201 ?_
  refine LJ.callX (as := [.inl ((xs (i + 1)).toInt), .inl ((xs (i + 2)).toInt)]) (e_xx_pour ex) X hN (RS_cons (to_in _) (RS_cons (to_in _) RS_nil)) rfl cl_X7_pour hl.1 (Nat.le_of_ble_eq_true rfl) cq365 cq366 cq367 rfl dL_law_202 (fun hN' => ?_)
  refine LJ.aload X dL_law_205 rfl (lv_at hl 1 rfl) ?_
  refine LJ.rd X (lv_at hl 3 rfl) (lv_at hl 0 rfl) (k := 1) (by omega) dL_law_206 dL_law_207 dL_law_208 dL_law_209 dL_law_210 ?_
  refine LJ.rd X (lv_at hl 3 rfl) (lv_at hl 0 rfl) (k := 2) (by omega) dL_law_211 dL_law_212 dL_law_213 dL_law_214 dL_law_215 ?_
  refine LJ.callM (as := [.inl ((xs (i + 1)).toInt), .inl ((xs (i + 2)).toInt)]) (e_mm_pour em) X hM (RS_cons (to_in _) (RS_cons (to_in _) RS_nil)) rfl cl_X8_pour hl.1 (Nat.le_of_ble_eq_true rfl) cq926 cq927 cq928 rfl dL_law_216 (fun hM' => ?_)
  refine LJ.eq_y X 904 dL_law_219 (by decide) ?_
  exact kend ν' μ' ls hN' hM' M' I' hl
set_option maxRecDepth 100000 in
theorem law_2 (X : LE D ca aX aM p s m args c A b L xs cells slots) (hN : RM ν) (hM : RM μ) (h0 : 0 ≤ t) (ht : t ≤ 900000000) (M : MI μ t) (I : XI ν μ) (hi : i + 3 < L) (hl : lv_has ls 8 [(3, .int (Int32.ofInt i)), (2, .ref (aM 0)), (1, .ref (aX 0)), (0, .ref b)]) (kend : ∀ (ν' μ' : Mem) (ls' : Array Slot), RM ν' → RM μ' → MI μ' (t + 1500000) → XI ν' μ' → lv_has ls' 8 [(3, .int (Int32.ofInt i)), (2, .ref (aM 0)), (1, .ref (aX 0)), (0, .ref b)] → LJ p l e s m args below meth c Q D ca A aX aM ν' μ' cells slots 904 ls' []) : LJ p l e s m args below meth c Q D ca A aX aM ν μ cells slots 224 ls [] := by
  obtain ⟨r, μ', ν', em, ex, M', I'⟩ := sim_more ((xs (i + 1)).toInt) μ ν t h0 ht M I
  refine LJ.aload X dL_law_224 rfl (lv_at hl 2 rfl) ?_
  refine LJ.rd X (lv_at hl 3 rfl) (lv_at hl 0 rfl) (k := 1) (by omega) dL_law_225 dL_law_226 dL_law_227 dL_law_228 dL_law_229 ?_
  refine LJ.callX (as := [.inl ((xs (i + 1)).toInt)]) (e_xx_more ex) X hN (RS_cons (to_in _) RS_nil) rfl cl_X7_more hl.1 (Nat.le_of_ble_eq_true rfl) cq385 cq386 cq387 rfl dL_law_230 (fun hN' => ?_)
  refine LJ.aload X dL_law_233 rfl (lv_at hl 1 rfl) ?_
  refine LJ.rd X (lv_at hl 3 rfl) (lv_at hl 0 rfl) (k := 1) (by omega) dL_law_234 dL_law_235 dL_law_236 dL_law_237 dL_law_238 ?_
  refine LJ.callM (as := [.inl ((xs (i + 1)).toInt)]) (e_mm_more em) X hM (RS_cons (to_in _) RS_nil) rfl cl_X8_more hl.1 (Nat.le_of_ble_eq_true rfl) cq949 cq950 cq951 rfl dL_law_239 (fun hM' => ?_)
  refine LJ.eq_y X 904 dL_law_242 (by decide) ?_
  exact kend ν' μ' ls hN' hM' M' I' hl
set_option maxRecDepth 100000 in
theorem law_3 (X : LE D ca aX aM p s m args c A b L xs cells slots) (hN : RM ν) (hM : RM μ) (h0 : 0 ≤ t) (ht : t ≤ 900000000) (M : MI μ t) (I : XI ν μ) (hi : i + 3 < L) (hl : lv_has ls 8 [(3, .int (Int32.ofInt i)), (2, .ref (aM 0)), (1, .ref (aX 0)), (0, .ref b)]) (kend : ∀ (ν' μ' : Mem) (ls' : Array Slot), RM ν' → RM μ' → MI μ' (t + 1500000) → XI ν' μ' → lv_has ls' 8 [(3, .int (Int32.ofInt i)), (2, .ref (aM 0)), (1, .ref (aX 0)), (0, .ref b)] → LJ p l e s m args below meth c Q D ca A aX aM ν' μ' cells slots 904 ls' []) : LJ p l e s m args below meth c Q D ca A aX aM ν μ cells slots 247 ls [] := by
  obtain ⟨r, μ', ν', em, ex, M', I'⟩ := sim_throw ((xs (i + 1)).toInt) μ ν t h0 ht M I
  refine LJ.aload X dL_law_247 rfl (lv_at hl 2 rfl) ?_
  refine LJ.rd X (lv_at hl 3 rfl) (lv_at hl 0 rfl) (k := 1) (by omega) dL_law_248 dL_law_249 dL_law_250 dL_law_251 dL_law_252 ?_
  refine LJ.callX (as := [.inl ((xs (i + 1)).toInt)]) (e_xx_throwAway ex) X hN (RS_cons (to_in _) RS_nil) rfl cl_X7_throwAway hl.1 (Nat.le_of_ble_eq_true rfl) cq396 cq397 cq398 rfl dL_law_253 (fun hN' => ?_)
  refine LJ.aload X dL_law_256 rfl (lv_at hl 1 rfl) ?_
  refine LJ.rd X (lv_at hl 3 rfl) (lv_at hl 0 rfl) (k := 1) (by omega) dL_law_257 dL_law_258 dL_law_259 dL_law_260 dL_law_261 ?_
  refine LJ.callM (as := [.inl ((xs (i + 1)).toInt)]) (e_mm_throwAway em) X hM (RS_cons (to_in _) RS_nil) rfl cl_X8_throwAway hl.1 (Nat.le_of_ble_eq_true rfl) cq957 cq958 cq959 rfl dL_law_262 (fun hM' => ?_)
  refine LJ.eq_y X 904 dL_law_265 (by decide) ?_
  exact kend ν' μ' ls hN' hM' M' I' hl
set_option maxRecDepth 100000 in
theorem law_4 (X : LE D ca aX aM p s m args c A b L xs cells slots) (hN : RM ν) (hM : RM μ) (h0 : 0 ≤ t) (ht : t ≤ 900000000) (M : MI μ t) (I : XI ν μ) (hi : i + 3 < L) (hl : lv_has ls 8 [(3, .int (Int32.ofInt i)), (2, .ref (aM 0)), (1, .ref (aX 0)), (0, .ref b)]) (kend : ∀ (ν' μ' : Mem) (ls' : Array Slot), RM ν' → RM μ' → MI μ' (t + 1500000) → XI ν' μ' → lv_has ls' 8 [(3, .int (Int32.ofInt i)), (2, .ref (aM 0)), (1, .ref (aX 0)), (0, .ref b)] → LJ p l e s m args below meth c Q D ca A aX aM ν' μ' cells slots 904 ls' []) : LJ p l e s m args below meth c Q D ca A aX aM ν μ cells slots 270 ls [] := by
  obtain ⟨r, μ', ν', em, ex, M', I'⟩ := sim_rule ((xs (i + 1)).toInt) μ ν t h0 ht M I
  refine LJ.aload X dL_law_270 rfl (lv_at hl 2 rfl) ?_
  refine LJ.rd X (lv_at hl 3 rfl) (lv_at hl 0 rfl) (k := 1) (by omega) dL_law_271 dL_law_272 dL_law_273 dL_law_274 dL_law_275 ?_
  refine LJ.callX (as := [.inl ((xs (i + 1)).toInt)]) (e_xx_rule ex) X hN (RS_cons (to_in _) RS_nil) rfl cl_X7_rule hl.1 (Nat.le_of_ble_eq_true rfl) cq408 cq409 cq410 rfl dL_law_276 (fun hN' => ?_)
  refine LJ.aload X dL_law_279 rfl (lv_at hl 1 rfl) ?_
  refine LJ.rd X (lv_at hl 3 rfl) (lv_at hl 0 rfl) (k := 1) (by omega) dL_law_280 dL_law_281 dL_law_282 dL_law_283 dL_law_284 ?_
  refine LJ.callM (as := [.inl ((xs (i + 1)).toInt)]) (e_mm_rule em) X hM (RS_cons (to_in _) RS_nil) rfl cl_X8_rule hl.1 (Nat.le_of_ble_eq_true rfl) cq965 cq966 cq967 rfl dL_law_285 (fun hM' => ?_)
  refine LJ.eq_y X 904 dL_law_288 (by decide) ?_
  exact kend ν' μ' ls hN' hM' M' I' hl
set_option maxRecDepth 100000 in
theorem law_5 (X : LE D ca aX aM p s m args c A b L xs cells slots) (hN : RM ν) (hM : RM μ) (h0 : 0 ≤ t) (ht : t ≤ 900000000) (M : MI μ t) (I : XI ν μ) (hi : i + 3 < L) (hl : lv_has ls 8 [(3, .int (Int32.ofInt i)), (2, .ref (aM 0)), (1, .ref (aX 0)), (0, .ref b)]) (kend : ∀ (ν' μ' : Mem) (ls' : Array Slot), RM ν' → RM μ' → MI μ' (t + 1500000) → XI ν' μ' → lv_has ls' 8 [(3, .int (Int32.ofInt i)), (2, .ref (aM 0)), (1, .ref (aX 0)), (0, .ref b)] → LJ p l e s m args below meth c Q D ca A aX aM ν' μ' cells slots 904 ls' []) : LJ p l e s m args below meth c Q D ca A aX aM ν μ cells slots 293 ls [] := by
  obtain ⟨r, μ', ν', em, ex, M', I'⟩ := sim_drop ((xs (i + 1)).toInt) μ ν t h0 ht M I
  refine LJ.aload X dL_law_293 rfl (lv_at hl 2 rfl) ?_
  refine LJ.rd X (lv_at hl 3 rfl) (lv_at hl 0 rfl) (k := 1) (by omega) dL_law_294 dL_law_295 dL_law_296 dL_law_297 dL_law_298 ?_
  refine LJ.callX (as := [.inl ((xs (i + 1)).toInt)]) (e_xx_drop ex) X hN (RS_cons (to_in _) RS_nil) rfl cl_X7_drop hl.1 (Nat.le_of_ble_eq_true rfl) cq454 cq455 cq456 rfl dL_law_299 (fun hN' => ?_)
  refine LJ.aload X dL_law_302 rfl (lv_at hl 1 rfl) ?_
  refine LJ.rd X (lv_at hl 3 rfl) (lv_at hl 0 rfl) (k := 1) (by omega) dL_law_303 dL_law_304 dL_law_305 dL_law_306 dL_law_307 ?_
  refine LJ.callM (as := [.inl ((xs (i + 1)).toInt)]) (e_mm_drop em) X hM (RS_cons (to_in _) RS_nil) rfl cl_X8_drop hl.1 (Nat.le_of_ble_eq_true rfl) cq985 cq986 cq987 rfl dL_law_308 (fun hM' => ?_)
  refine LJ.eq_y X 904 dL_law_311 (by decide) ?_
  exact kend ν' μ' ls hN' hM' M' I' hl
set_option maxRecDepth 100000 in
theorem law_6 (X : LE D ca aX aM p s m args c A b L xs cells slots) (hN : RM ν) (hM : RM μ) (h0 : 0 ≤ t) (ht : t ≤ 900000000) (M : MI μ t) (I : XI ν μ) (hi : i + 3 < L) (hl : lv_has ls 8 [(3, .int (Int32.ofInt i)), (2, .ref (aM 0)), (1, .ref (aX 0)), (0, .ref b)]) (kend : ∀ (ν' μ' : Mem) (ls' : Array Slot), RM ν' → RM μ' → MI μ' (t + 1500000) → XI ν' μ' → lv_has ls' 8 [(3, .int (Int32.ofInt i)), (2, .ref (aM 0)), (1, .ref (aX 0)), (0, .ref b)] → LJ p l e s m args below meth c Q D ca A aX aM ν' μ' cells slots 904 ls' []) : LJ p l e s m args below meth c Q D ca A aX aM ν μ cells slots 316 ls [] := by
  obtain ⟨r, μ', ν', em, ex, M', I'⟩ := sim_price ((xs (i + 1)).toInt) ((xs (i + 2)).toInt) μ ν t h0 ht M I
  refine LJ.aload X dL_law_316 rfl (lv_at hl 2 rfl) ?_
  refine LJ.rd X (lv_at hl 3 rfl) (lv_at hl 0 rfl) (k := 1) (by omega) dL_law_317 dL_law_318 dL_law_319 dL_law_320 dL_law_321 ?_
  refine LJ.rd X (lv_at hl 3 rfl) (lv_at hl 0 rfl) (k := 2) (by omega) dL_law_322 dL_law_323 dL_law_324 dL_law_325 dL_law_326 ?_
  refine LJ.callX (as := [.inl ((xs (i + 1)).toInt), .inl ((xs (i + 2)).toInt)]) (e_xx_price ex) X hN (RS_cons (to_in _) (RS_cons (to_in _) RS_nil)) rfl cl_X7_price hl.1 (Nat.le_of_ble_eq_true rfl) cq466 cq467 cq468 rfl dL_law_327 (fun hN' => ?_)
  refine LJ.aload X dL_law_330 rfl (lv_at hl 1 rfl) ?_
  refine LJ.rd X (lv_at hl 3 rfl) (lv_at hl 0 rfl) (k := 1) (by omega) dL_law_331 dL_law_332 dL_law_333 dL_law_334 dL_law_335 ?_
  refine LJ.rd X (lv_at hl 3 rfl) (lv_at hl 0 rfl) (k := 2) (by omega) dL_law_336 dL_law_337 dL_law_338 dL_law_339 dL_law_340 ?_
  refine LJ.callM (as := [.inl ((xs (i + 1)).toInt), .inl ((xs (i + 2)).toInt)]) (e_mm_price em) X hM (RS_cons (to_in _) (RS_cons (to_in _) RS_nil)) rfl cl_X8_price hl.1 (Nat.le_of_ble_eq_true rfl) cq993 cq994 cq995 rfl dL_law_341 (fun hM' => ?_)
  refine LJ.eq_y X 904 dL_law_344 (by decide) ?_
  exact kend ν' μ' ls hN' hM' M' I' hl
set_option maxRecDepth 100000 in
theorem law_7 (X : LE D ca aX aM p s m args c A b L xs cells slots) (hN : RM ν) (hM : RM μ) (h0 : 0 ≤ t) (ht : t ≤ 900000000) (M : MI μ t) (I : XI ν μ) (hi : i + 3 < L) (hl : lv_has ls 8 [(3, .int (Int32.ofInt i)), (2, .ref (aM 0)), (1, .ref (aX 0)), (0, .ref b)]) (kend : ∀ (ν' μ' : Mem) (ls' : Array Slot), RM ν' → RM μ' → MI μ' (t + 1500000) → XI ν' μ' → lv_has ls' 8 [(3, .int (Int32.ofInt i)), (2, .ref (aM 0)), (1, .ref (aX 0)), (0, .ref b)] → LJ p l e s m args below meth c Q D ca A aX aM ν' μ' cells slots 904 ls' []) : LJ p l e s m args below meth c Q D ca A aX aM ν μ cells slots 349 ls [] := by
  obtain ⟨r, μ', ν', em, ex, M', I'⟩ := sim_want ((xs (i + 1)).toInt) μ ν t h0 ht M I
  refine LJ.aload X dL_law_349 rfl (lv_at hl 2 rfl) ?_
  refine LJ.rd X (lv_at hl 3 rfl) (lv_at hl 0 rfl) (k := 1) (by omega) dL_law_350 dL_law_351 dL_law_352 dL_law_353 dL_law_354 ?_
  refine LJ.callX (as := [.inl ((xs (i + 1)).toInt)]) (e_xx_want ex) X hN (RS_cons (to_in _) RS_nil) rfl cl_X7_want hl.1 (Nat.le_of_ble_eq_true rfl) cq474 cq475 cq476 rfl dL_law_355 (fun hN' => ?_)
  refine LJ.aload X dL_law_358 rfl (lv_at hl 1 rfl) ?_
  refine LJ.rd X (lv_at hl 3 rfl) (lv_at hl 0 rfl) (k := 1) (by omega) dL_law_359 dL_law_360 dL_law_361 dL_law_362 dL_law_363 ?_
  refine LJ.callM (as := [.inl ((xs (i + 1)).toInt)]) (e_mm_want em) X hM (RS_cons (to_in _) RS_nil) rfl cl_X8_want hl.1 (Nat.le_of_ble_eq_true rfl) cq997 cq998 cq999 rfl dL_law_364 (fun hM' => ?_)
  refine LJ.eq_y X 904 dL_law_367 (by decide) ?_
  exact kend ν' μ' ls hN' hM' M' I' hl
set_option maxRecDepth 100000 in
theorem law_8 (X : LE D ca aX aM p s m args c A b L xs cells slots) (hN : RM ν) (hM : RM μ) (h0 : 0 ≤ t) (ht : t ≤ 900000000) (M : MI μ t) (I : XI ν μ) (hi : i + 3 < L) (hl : lv_has ls 8 [(3, .int (Int32.ofInt i)), (2, .ref (aM 0)), (1, .ref (aX 0)), (0, .ref b)]) (kend : ∀ (ν' μ' : Mem) (ls' : Array Slot), RM ν' → RM μ' → MI μ' (t + 1500000) → XI ν' μ' → lv_has ls' 8 [(3, .int (Int32.ofInt i)), (2, .ref (aM 0)), (1, .ref (aX 0)), (0, .ref b)] → LJ p l e s m args below meth c Q D ca A aX aM ν' μ' cells slots 904 ls' []) : LJ p l e s m args below meth c Q D ca A aX aM ν μ cells slots 372 ls [] := by
  obtain ⟨r, μ', ν', em, ex, M', I'⟩ := sim_serve  μ ν t h0 ht M I
  refine LJ.aload X dL_law_372 rfl (lv_at hl 2 rfl) ?_
  refine LJ.callX (as := []) (e_xx_serve ex) X hN RS_nil rfl cl_X7_serve hl.1 (Nat.le_of_ble_eq_true rfl) cq482 cq483 cq484 rfl dL_law_373 (fun hN' => ?_)
  refine LJ.aload X dL_law_376 rfl (lv_at hl 1 rfl) ?_
  refine LJ.callM (as := []) (e_mm_serve em) X hM RS_nil rfl cl_X8_serve hl.1 (Nat.le_of_ble_eq_true rfl) cq1005 cq1006 cq1007 rfl dL_law_377 (fun hM' => ?_)
  refine LJ.eq_y X 904 dL_law_380 (by decide) ?_
  exact kend ν' μ' ls hN' hM' M' I' hl
set_option maxRecDepth 100000 in
theorem law_9 (X : LE D ca aX aM p s m args c A b L xs cells slots) (hN : RM ν) (hM : RM μ) (h0 : 0 ≤ t) (ht : t ≤ 900000000) (M : MI μ t) (I : XI ν μ) (hi : i + 3 < L) (hl : lv_has ls 8 [(3, .int (Int32.ofInt i)), (2, .ref (aM 0)), (1, .ref (aX 0)), (0, .ref b)]) (kend : ∀ (ν' μ' : Mem) (ls' : Array Slot), RM ν' → RM μ' → MI μ' (t + 1500000) → XI ν' μ' → lv_has ls' 8 [(3, .int (Int32.ofInt i)), (2, .ref (aM 0)), (1, .ref (aX 0)), (0, .ref b)] → LJ p l e s m args below meth c Q D ca A aX aM ν' μ' cells slots 904 ls' []) : LJ p l e s m args below meth c Q D ca A aX aM ν μ cells slots 385 ls [] := by
  obtain ⟨r, μ', ν', em, ex, M', I'⟩ := sim_type (nch_b ((xs (i + 1)).toInt)) μ ν t h0 ht M I
  refine LJ.aload X dL_law_385 rfl (lv_at hl 2 rfl) ?_
  refine LJ.rd X (lv_at hl 3 rfl) (lv_at hl 0 rfl) (k := 1) (by omega) dL_law_386 dL_law_387 dL_law_388 dL_law_389 dL_law_390 ?_
  refine LJ.i2c X dL_law_391 ?_
  refine LJ.callX (as := [.inl (nch ((xs (i + 1)).toInt))]) (e_xx_type ex) X hN (RS_cons (nch_in _) RS_nil) rfl cl_X7_type hl.1 (Nat.le_of_ble_eq_true rfl) cq508 cq509 cq510 rfl dL_law_392 (fun hN' => ?_)
  refine LJ.aload X dL_law_395 rfl (lv_at hl 1 rfl) ?_
  refine LJ.rd X (lv_at hl 3 rfl) (lv_at hl 0 rfl) (k := 1) (by omega) dL_law_396 dL_law_397 dL_law_398 dL_law_399 dL_law_400 ?_
  refine LJ.i2c X dL_law_401 ?_
  refine LJ.callM (as := [.inl (nch ((xs (i + 1)).toInt))]) (e_mm_type em) X hM (RS_cons (nch_in _) RS_nil) rfl cl_X8_type hl.1 (Nat.le_of_ble_eq_true rfl) cq1017 cq1018 cq1019 rfl dL_law_402 (fun hM' => ?_)
  refine LJ.eq_y X 904 dL_law_405 (by decide) ?_
  exact kend ν' μ' ls hN' hM' M' I' hl
set_option maxRecDepth 100000 in
theorem law_10 (X : LE D ca aX aM p s m args c A b L xs cells slots) (hN : RM ν) (hM : RM μ) (h0 : 0 ≤ t) (ht : t ≤ 900000000) (M : MI μ t) (I : XI ν μ) (hi : i + 3 < L) (hl : lv_has ls 8 [(3, .int (Int32.ofInt i)), (2, .ref (aM 0)), (1, .ref (aX 0)), (0, .ref b)]) (kend : ∀ (ν' μ' : Mem) (ls' : Array Slot), RM ν' → RM μ' → MI μ' (t + 1500000) → XI ν' μ' → lv_has ls' 8 [(3, .int (Int32.ofInt i)), (2, .ref (aM 0)), (1, .ref (aX 0)), (0, .ref b)] → LJ p l e s m args below meth c Q D ca A aX aM ν' μ' cells slots 904 ls' []) : LJ p l e s m args below meth c Q D ca A aX aM ν μ cells slots 410 ls [] := by
  obtain ⟨r, μ', ν', em, ex, M', I'⟩ := sim_clear  μ ν t h0 ht M I
  refine LJ.aload X dL_law_410 rfl (lv_at hl 2 rfl) ?_
  refine LJ.callX (as := []) (e_xx_clearText ex) X hN RS_nil rfl cl_X7_clearText hl.1 (Nat.le_of_ble_eq_true rfl) cq516 cq517 cq518 rfl dL_law_411 (fun hN' => ?_)
  refine LJ.aload X dL_law_414 rfl (lv_at hl 1 rfl) ?_
  refine LJ.callM (as := []) (e_mm_clearText em) X hM RS_nil rfl cl_X8_clearText hl.1 (Nat.le_of_ble_eq_true rfl) cq1021 cq1022 cq1023 rfl dL_law_415 (fun hM' => ?_)
  refine LJ.eq_y X 904 dL_law_418 (by decide) ?_
  exact kend ν' μ' ls hN' hM' M' I' hl
set_option maxRecDepth 100000 in
theorem law_11 (X : LE D ca aX aM p s m args c A b L xs cells slots) (hN : RM ν) (hM : RM μ) (h0 : 0 ≤ t) (ht : t ≤ 900000000) (M : MI μ t) (I : XI ν μ) (hi : i + 3 < L) (hl : lv_has ls 8 [(3, .int (Int32.ofInt i)), (2, .ref (aM 0)), (1, .ref (aX 0)), (0, .ref b)]) (kend : ∀ (ν' μ' : Mem) (ls' : Array Slot), RM ν' → RM μ' → MI μ' (t + 1500000) → XI ν' μ' → lv_has ls' 8 [(3, .int (Int32.ofInt i)), (2, .ref (aM 0)), (1, .ref (aX 0)), (0, .ref b)] → LJ p l e s m args below meth c Q D ca A aX aM ν' μ' cells slots 904 ls' []) : LJ p l e s m args below meth c Q D ca A aX aM ν μ cells slots 423 ls [] := by
  obtain ⟨r, μ', ν', em, ex, M', I'⟩ := sim_fault  μ ν t h0 ht M I
  refine LJ.aload X dL_law_423 rfl (lv_at hl 2 rfl) ?_
  refine LJ.callX (as := []) (e_xx_fault ex) X hN RS_nil rfl cl_X7_fault hl.1 (Nat.le_of_ble_eq_true rfl) cq524 cq525 cq526 rfl dL_law_424 (fun hN' => ?_)
  refine LJ.aload X dL_law_427 rfl (lv_at hl 1 rfl) ?_
  refine LJ.callM (as := []) (e_mm_fault em) X hM RS_nil rfl cl_X8_fault hl.1 (Nat.le_of_ble_eq_true rfl) cq1025 cq1026 cq1027 rfl dL_law_428 (fun hM' => ?_)
  refine LJ.eq_y X 904 dL_law_431 (by decide) ?_
  exact kend ν' μ' ls hN' hM' M' I' hl
set_option maxRecDepth 100000 in
theorem law_12 (X : LE D ca aX aM p s m args c A b L xs cells slots) (hN : RM ν) (hM : RM μ) (h0 : 0 ≤ t) (ht : t ≤ 900000000) (M : MI μ t) (I : XI ν μ) (hi : i + 3 < L) (hl : lv_has ls 8 [(3, .int (Int32.ofInt i)), (2, .ref (aM 0)), (1, .ref (aX 0)), (0, .ref b)]) (kend : ∀ (ν' μ' : Mem) (ls' : Array Slot), RM ν' → RM μ' → MI μ' (t + 1500000) → XI ν' μ' → lv_has ls' 8 [(3, .int (Int32.ofInt i)), (2, .ref (aM 0)), (1, .ref (aX 0)), (0, .ref b)] → LJ p l e s m args below meth c Q D ca A aX aM ν' μ' cells slots 904 ls' []) : LJ p l e s m args below meth c Q D ca A aX aM ν μ cells slots 436 ls [] := by
  obtain ⟨r, μ', ν', em, ex, M', I'⟩ := sim_doAll  μ ν t h0 ht M I
  refine LJ.aload X dL_law_436 rfl (lv_at hl 2 rfl) ?_
  refine LJ.callX (as := []) (e_xx_doAll ex) X hN RS_nil rfl cl_X7_doAll hl.1 (Nat.le_of_ble_eq_true rfl) cq638 cq639 cq640 rfl dL_law_437 (fun hN' => ?_)
  refine LJ.aload X dL_law_440 rfl (lv_at hl 1 rfl) ?_
  refine LJ.callM (as := []) (e_mm_doAll em) X hM RS_nil rfl cl_X8_doAll hl.1 (Nat.le_of_ble_eq_true rfl) cq1060 cq1061 cq1062 rfl dL_law_441 (fun hM' => ?_)
  refine LJ.eq_y X 904 dL_law_444 (by decide) ?_
  exact kend ν' μ' ls hN' hM' M' I' hl
set_option maxRecDepth 100000 in
theorem law_13 (X : LE D ca aX aM p s m args c A b L xs cells slots) (hN : RM ν) (hM : RM μ) (h0 : 0 ≤ t) (ht : t ≤ 900000000) (M : MI μ t) (I : XI ν μ) (hi : i + 3 < L) (hl : lv_has ls 8 [(3, .int (Int32.ofInt i)), (2, .ref (aM 0)), (1, .ref (aX 0)), (0, .ref b)]) (kend : ∀ (ν' μ' : Mem) (ls' : Array Slot), RM ν' → RM μ' → MI μ' (t + 1500000) → XI ν' μ' → lv_has ls' 8 [(3, .int (Int32.ofInt i)), (2, .ref (aM 0)), (1, .ref (aX 0)), (0, .ref b)] → LJ p l e s m args below meth c Q D ca A aX aM ν' μ' cells slots 904 ls' []) : LJ p l e s m args below meth c Q D ca A aX aM ν μ cells slots 449 ls [] := by
  obtain ⟨r, μ', ν', em, ex, M', I'⟩ := sim_undo  μ ν t h0 ht M I
  refine LJ.aload X dL_law_449 rfl (lv_at hl 2 rfl) ?_
  refine LJ.callX (as := []) (e_xx_undo ex) X hN RS_nil rfl cl_X7_undo hl.1 (Nat.le_of_ble_eq_true rfl) cq667 cq668 cq669 rfl dL_law_450 (fun hN' => ?_)
  refine LJ.aload X dL_law_453 rfl (lv_at hl 1 rfl) ?_
  refine LJ.callM (as := []) (e_mm_undo em) X hM RS_nil rfl cl_X8_undo hl.1 (Nat.le_of_ble_eq_true rfl) cq1064 cq1065 cq1066 rfl dL_law_454 (fun hM' => ?_)
  refine LJ.eq_y X 904 dL_law_457 (by decide) ?_
  exact kend ν' μ' ls hN' hM' M' I' hl
set_option maxRecDepth 100000 in
theorem law_14 (X : LE D ca aX aM p s m args c A b L xs cells slots) (hN : RM ν) (hM : RM μ) (h0 : 0 ≤ t) (ht : t ≤ 900000000) (M : MI μ t) (I : XI ν μ) (hi : i + 3 < L) (hl : lv_has ls 8 [(3, .int (Int32.ofInt i)), (2, .ref (aM 0)), (1, .ref (aX 0)), (0, .ref b)]) (kend : ∀ (ν' μ' : Mem) (ls' : Array Slot), RM ν' → RM μ' → MI μ' (t + 1500000) → XI ν' μ' → lv_has ls' 8 [(3, .int (Int32.ofInt i)), (2, .ref (aM 0)), (1, .ref (aX 0)), (0, .ref b)] → LJ p l e s m args below meth c Q D ca A aX aM ν' μ' cells slots 904 ls' []) : LJ p l e s m args below meth c Q D ca A aX aM ν μ cells slots 462 ls [] := by
  obtain ⟨r, μ', ν', em, ex, M', I'⟩ := sim_keep  μ ν t h0 ht M I
  refine LJ.aload X dL_law_462 rfl (lv_at hl 2 rfl) ?_
  refine LJ.callX (as := []) (e_xx_keep ex) X hN RS_nil rfl cl_X7_keep hl.1 (Nat.le_of_ble_eq_true rfl) cq676 cq677 cq678 rfl dL_law_463 (fun hN' => ?_)
  refine LJ.aload X dL_law_466 rfl (lv_at hl 1 rfl) ?_
  refine LJ.callM (as := []) (e_mm_keep em) X hM RS_nil rfl cl_X8_keep hl.1 (Nat.le_of_ble_eq_true rfl) cq1068 cq1069 cq1070 rfl dL_law_467 (fun hM' => ?_)
  refine LJ.eq_y X 904 dL_law_470 (by decide) ?_
  exact kend ν' μ' ls hN' hM' M' I' hl
set_option maxRecDepth 100000 in
theorem law_15 (X : LE D ca aX aM p s m args c A b L xs cells slots) (hN : RM ν) (hM : RM μ) (h0 : 0 ≤ t) (ht : t ≤ 900000000) (M : MI μ t) (I : XI ν μ) (hi : i + 3 < L) (hl : lv_has ls 8 [(3, .int (Int32.ofInt i)), (2, .ref (aM 0)), (1, .ref (aX 0)), (0, .ref b)]) (kend : ∀ (ν' μ' : Mem) (ls' : Array Slot), RM ν' → RM μ' → MI μ' (t + 1500000) → XI ν' μ' → lv_has ls' 8 [(3, .int (Int32.ofInt i)), (2, .ref (aM 0)), (1, .ref (aX 0)), (0, .ref b)] → LJ p l e s m args below meth c Q D ca A aX aM ν' μ' cells slots 904 ls' []) : LJ p l e s m args below meth c Q D ca A aX aM ν μ cells slots 475 ls [] := by
  obtain ⟨r, μ', ν', em, ex, M', I'⟩ := sim_restore  μ ν t h0 ht M I
  refine LJ.aload X dL_law_475 rfl (lv_at hl 2 rfl) ?_
  refine LJ.callX (as := []) (e_xx_restore ex) X hN RS_nil rfl cl_X7_restore hl.1 (Nat.le_of_ble_eq_true rfl) cq681 cq682 cq683 rfl dL_law_476 (fun hN' => ?_)
  refine LJ.aload X dL_law_479 rfl (lv_at hl 1 rfl) ?_
  refine LJ.callM (as := []) (e_mm_restore em) X hM RS_nil rfl cl_X8_restore hl.1 (Nat.le_of_ble_eq_true rfl) cq1072 cq1073 cq1074 rfl dL_law_480 (fun hM' => ?_)
  refine LJ.eq_y X 904 dL_law_483 (by decide) ?_
  exact kend ν' μ' ls hN' hM' M' I' hl
set_option maxRecDepth 100000 in
theorem law_16 (X : LE D ca aX aM p s m args c A b L xs cells slots) (hN : RM ν) (hM : RM μ) (h0 : 0 ≤ t) (ht : t ≤ 900000000) (M : MI μ t) (I : XI ν μ) (hi : i + 3 < L) (hl : lv_has ls 8 [(3, .int (Int32.ofInt i)), (2, .ref (aM 0)), (1, .ref (aX 0)), (0, .ref b)]) (kend : ∀ (ν' μ' : Mem) (ls' : Array Slot), RM ν' → RM μ' → MI μ' (t + 1500000) → XI ν' μ' → lv_has ls' 8 [(3, .int (Int32.ofInt i)), (2, .ref (aM 0)), (1, .ref (aX 0)), (0, .ref b)] → LJ p l e s m args below meth c Q D ca A aX aM ν' μ' cells slots 904 ls' []) : LJ p l e s m args below meth c Q D ca A aX aM ν μ cells slots 488 ls [] := by
  obtain ⟨r, μ', ν', em, ex, M', I'⟩ := sim_jarOf ((xs (i + 1)).toInt) ((xs (i + 2)).toInt) μ ν t h0 ht M I
  refine LJ.aload X dL_law_488 rfl (lv_at hl 2 rfl) ?_
  refine LJ.rd X (lv_at hl 3 rfl) (lv_at hl 0 rfl) (k := 1) (by omega) dL_law_489 dL_law_490 dL_law_491 dL_law_492 dL_law_493 ?_
  refine LJ.rd X (lv_at hl 3 rfl) (lv_at hl 0 rfl) (k := 2) (by omega) dL_law_494 dL_law_495 dL_law_496 dL_law_497 dL_law_498 ?_
  refine LJ.callX (as := [.inl ((xs (i + 1)).toInt), .inl ((xs (i + 2)).toInt)]) (e_xx_jarOf ex) X hN (RS_cons (to_in _) (RS_cons (to_in _) RS_nil)) rfl cl_X7_jarOf hl.1 (Nat.le_of_ble_eq_true rfl) cq685 cq686 cq687 rfl dL_law_499 (fun hN' => ?_)
  refine LJ.aload X dL_law_502 rfl (lv_at hl 1 rfl) ?_
  refine LJ.rd X (lv_at hl 3 rfl) (lv_at hl 0 rfl) (k := 1) (by omega) dL_law_503 dL_law_504 dL_law_505 dL_law_506 dL_law_507 ?_
  refine LJ.rd X (lv_at hl 3 rfl) (lv_at hl 0 rfl) (k := 2) (by omega) dL_law_508 dL_law_509 dL_law_510 dL_law_511 dL_law_512 ?_
  refine LJ.callM (as := [.inl ((xs (i + 1)).toInt), .inl ((xs (i + 2)).toInt)]) (e_mm_jarOf em) X hM (RS_cons (to_in _) (RS_cons (to_in _) RS_nil)) rfl cl_X8_jarOf hl.1 (Nat.le_of_ble_eq_true rfl) cq1076 cq1077 cq1078 rfl dL_law_513 (fun hM' => ?_)
  refine LJ.eq_y X 904 dL_law_516 (by decide) ?_
  exact kend ν' μ' ls hN' hM' M' I' hl
set_option maxRecDepth 100000 in
theorem law_17 (X : LE D ca aX aM p s m args c A b L xs cells slots) (hN : RM ν) (hM : RM μ) (h0 : 0 ≤ t) (ht : t ≤ 900000000) (M : MI μ t) (I : XI ν μ) (hi : i + 3 < L) (hl : lv_has ls 8 [(3, .int (Int32.ofInt i)), (2, .ref (aM 0)), (1, .ref (aX 0)), (0, .ref b)]) (kend : ∀ (ν' μ' : Mem) (ls' : Array Slot), RM ν' → RM μ' → MI μ' (t + 1500000) → XI ν' μ' → lv_has ls' 8 [(3, .int (Int32.ofInt i)), (2, .ref (aM 0)), (1, .ref (aX 0)), (0, .ref b)] → LJ p l e s m args below meth c Q D ca A aX aM ν' μ' cells slots 904 ls' []) : LJ p l e s m args below meth c Q D ca A aX aM ν μ cells slots 521 ls [] := by
  obtain ⟨r, em, ex⟩ := siq_ranked ((xs (i + 1)).toInt) μ ν t h0 ht M I
  refine LJ.aload X dL_law_521 rfl (lv_at hl 2 rfl) ?_
  refine LJ.rd X (lv_at hl 3 rfl) (lv_at hl 0 rfl) (k := 1) (by omega) dL_law_522 dL_law_523 dL_law_524 dL_law_525 dL_law_526 ?_
  refine LJ.callX (as := [.inl ((xs (i + 1)).toInt)]) (e_xx_ranked ex) X hN (RS_cons (to_in _) RS_nil) rfl cl_X7_ranked hl.1 (Nat.le_of_ble_eq_true rfl) cq714 cq715 cq716 rfl dL_law_527 (fun hN' => ?_)
  refine LJ.aload X dL_law_530 rfl (lv_at hl 1 rfl) ?_
  refine LJ.rd X (lv_at hl 3 rfl) (lv_at hl 0 rfl) (k := 1) (by omega) dL_law_531 dL_law_532 dL_law_533 dL_law_534 dL_law_535 ?_
  refine LJ.callM (as := [.inl ((xs (i + 1)).toInt)]) (e_mm_ranked em) X hM (RS_cons (to_in _) RS_nil) rfl cl_X8_ranked hl.1 (Nat.le_of_ble_eq_true rfl) cq1088 cq1089 cq1090 rfl dL_law_536 (fun hM' => ?_)
  refine LJ.eq_y X 904 dL_law_539 (by decide) ?_
  exact kend ν μ ls hN' hM' (MI_mono M (by omega)) I hl
set_option maxRecDepth 100000 in
theorem law_18 (X : LE D ca aX aM p s m args c A b L xs cells slots) (hN : RM ν) (hM : RM μ) (h0 : 0 ≤ t) (ht : t ≤ 900000000) (M : MI μ t) (I : XI ν μ) (hi : i + 3 < L) (hl : lv_has ls 8 [(3, .int (Int32.ofInt i)), (2, .ref (aM 0)), (1, .ref (aX 0)), (0, .ref b)]) (kend : ∀ (ν' μ' : Mem) (ls' : Array Slot), RM ν' → RM μ' → MI μ' (t + 1500000) → XI ν' μ' → lv_has ls' 8 [(3, .int (Int32.ofInt i)), (2, .ref (aM 0)), (1, .ref (aX 0)), (0, .ref b)] → LJ p l e s m args below meth c Q D ca A aX aM ν' μ' cells slots 904 ls' []) : LJ p l e s m args below meth c Q D ca A aX aM ν μ cells slots 544 ls [] := by
  obtain ⟨r, em, ex⟩ := siq_ruleOf ((xs (i + 1)).toInt) μ ν t h0 ht M I
  refine LJ.aload X dL_law_544 rfl (lv_at hl 2 rfl) ?_
  refine LJ.rd X (lv_at hl 3 rfl) (lv_at hl 0 rfl) (k := 1) (by omega) dL_law_545 dL_law_546 dL_law_547 dL_law_548 dL_law_549 ?_
  refine LJ.callX (as := [.inl ((xs (i + 1)).toInt)]) (e_xx_ruleOf ex) X hN (RS_cons (to_in _) RS_nil) rfl cl_X7_ruleOf hl.1 (Nat.le_of_ble_eq_true rfl) cq718 cq719 cq720 rfl dL_law_550 (fun hN' => ?_)
  refine LJ.aload X dL_law_553 rfl (lv_at hl 1 rfl) ?_
  refine LJ.rd X (lv_at hl 3 rfl) (lv_at hl 0 rfl) (k := 1) (by omega) dL_law_554 dL_law_555 dL_law_556 dL_law_557 dL_law_558 ?_
  refine LJ.callM (as := [.inl ((xs (i + 1)).toInt)]) (e_mm_ruleOf em) X hM (RS_cons (to_in _) RS_nil) rfl cl_X8_ruleOf hl.1 (Nat.le_of_ble_eq_true rfl) cq1092 cq1093 cq1094 rfl dL_law_559 (fun hM' => ?_)
  refine LJ.eq_y X 904 dL_law_562 (by decide) ?_
  exact kend ν μ ls hN' hM' (MI_mono M (by omega)) I hl
set_option maxRecDepth 100000 in
theorem law_19 (X : LE D ca aX aM p s m args c A b L xs cells slots) (hN : RM ν) (hM : RM μ) (h0 : 0 ≤ t) (ht : t ≤ 900000000) (M : MI μ t) (I : XI ν μ) (hi : i + 3 < L) (hl : lv_has ls 8 [(3, .int (Int32.ofInt i)), (2, .ref (aM 0)), (1, .ref (aX 0)), (0, .ref b)]) (kend : ∀ (ν' μ' : Mem) (ls' : Array Slot), RM ν' → RM μ' → MI μ' (t + 1500000) → XI ν' μ' → lv_has ls' 8 [(3, .int (Int32.ofInt i)), (2, .ref (aM 0)), (1, .ref (aX 0)), (0, .ref b)] → LJ p l e s m args below meth c Q D ca A aX aM ν' μ' cells slots 904 ls' []) : LJ p l e s m args below meth c Q D ca A aX aM ν μ cells slots 567 ls [] := by
  obtain ⟨r, μ', ν', em, ex, M', I'⟩ := sim_mixOf ((xs (i + 1)).toInt) ((xs (i + 2)).toInt) μ ν t h0 ht M I
  refine LJ.aload X dL_law_567 rfl (lv_at hl 2 rfl) ?_
  refine LJ.rd X (lv_at hl 3 rfl) (lv_at hl 0 rfl) (k := 1) (by omega) dL_law_568 dL_law_569 dL_law_570 dL_law_571 dL_law_572 ?_
  refine LJ.rd X (lv_at hl 3 rfl) (lv_at hl 0 rfl) (k := 2) (by omega) dL_law_573 dL_law_574 dL_law_575 dL_law_576 dL_law_577 ?_
  refine LJ.callX (as := [.inl ((xs (i + 1)).toInt), .inl ((xs (i + 2)).toInt)]) (e_xx_mixOf ex) X hN (RS_cons (to_in _) (RS_cons (to_in _) RS_nil)) rfl cl_X7_mixOf hl.1 (Nat.le_of_ble_eq_true rfl) cq722 cq723 cq724 rfl dL_law_578 (fun hN' => ?_)
  refine LJ.aload X dL_law_581 rfl (lv_at hl 1 rfl) ?_
  refine LJ.rd X (lv_at hl 3 rfl) (lv_at hl 0 rfl) (k := 1) (by omega) dL_law_582 dL_law_583 dL_law_584 dL_law_585 dL_law_586 ?_
  refine LJ.rd X (lv_at hl 3 rfl) (lv_at hl 0 rfl) (k := 2) (by omega) dL_law_587 dL_law_588 dL_law_589 dL_law_590 dL_law_591 ?_
  refine LJ.callM (as := [.inl ((xs (i + 1)).toInt), .inl ((xs (i + 2)).toInt)]) (e_mm_mixOf em) X hM (RS_cons (to_in _) (RS_cons (to_in _) RS_nil)) rfl cl_X8_mixOf hl.1 (Nat.le_of_ble_eq_true rfl) cq1096 cq1097 cq1098 rfl dL_law_592 (fun hM' => ?_)
  refine LJ.eq_y X 904 dL_law_595 (by decide) ?_
  exact kend ν' μ' ls hN' hM' M' I' hl
set_option maxRecDepth 100000 in
theorem law_20 (X : LE D ca aX aM p s m args c A b L xs cells slots) (hN : RM ν) (hM : RM μ) (h0 : 0 ≤ t) (ht : t ≤ 900000000) (M : MI μ t) (I : XI ν μ) (hi : i + 3 < L) (hl : lv_has ls 8 [(3, .int (Int32.ofInt i)), (2, .ref (aM 0)), (1, .ref (aX 0)), (0, .ref b)]) (kend : ∀ (ν' μ' : Mem) (ls' : Array Slot), RM ν' → RM μ' → MI μ' (t + 1500000) → XI ν' μ' → lv_has ls' 8 [(3, .int (Int32.ofInt i)), (2, .ref (aM 0)), (1, .ref (aX 0)), (0, .ref b)] → LJ p l e s m args below meth c Q D ca A aX aM ν' μ' cells slots 904 ls' []) : LJ p l e s m args below meth c Q D ca A aX aM ν μ cells slots 600 ls [] := by
  obtain ⟨r, em, ex⟩ := siq_together ((xs (i + 1)).toInt) ((xs (i + 2)).toInt) μ ν t h0 ht M I
  refine LJ.aload X dL_law_600 rfl (lv_at hl 2 rfl) ?_
  refine LJ.rd X (lv_at hl 3 rfl) (lv_at hl 0 rfl) (k := 1) (by omega) dL_law_601 dL_law_602 dL_law_603 dL_law_604 dL_law_605 ?_
  refine LJ.rd X (lv_at hl 3 rfl) (lv_at hl 0 rfl) (k := 2) (by omega) dL_law_606 dL_law_607 dL_law_608 dL_law_609 dL_law_610 ?_
  refine LJ.callX (as := [.inl ((xs (i + 1)).toInt), .inl ((xs (i + 2)).toInt)]) (e_xx_together ex) X hN (RS_cons (to_in _) (RS_cons (to_in _) RS_nil)) rfl cl_X7_together hl.1 (Nat.le_of_ble_eq_true rfl) cq732 cq733 cq734 rfl dL_law_611 (fun hN' => ?_)
  refine LJ.aload X dL_law_614 rfl (lv_at hl 1 rfl) ?_
  refine LJ.rd X (lv_at hl 3 rfl) (lv_at hl 0 rfl) (k := 1) (by omega) dL_law_615 dL_law_616 dL_law_617 dL_law_618 dL_law_619 ?_
  refine LJ.rd X (lv_at hl 3 rfl) (lv_at hl 0 rfl) (k := 2) (by omega) dL_law_620 dL_law_621 dL_law_622 dL_law_623 dL_law_624 ?_
  refine LJ.callM (as := [.inl ((xs (i + 1)).toInt), .inl ((xs (i + 2)).toInt)]) (e_mm_together (show mm_together _ _ = _ from em)) X hM (RS_cons (to_in _) (RS_cons (to_in _) RS_nil)) rfl cl_X8_together hl.1 (Nat.le_of_ble_eq_true rfl) cq1104 cq1105 cq1106 rfl dL_law_625 (fun hM' => ?_)
  refine LJ.eq_y X 904 dL_law_628 (by decide) ?_
  exact kend ν μ ls hN' hM' (MI_mono M (by omega)) I hl
set_option maxRecDepth 100000 in
theorem law_21 (X : LE D ca aX aM p s m args c A b L xs cells slots) (hN : RM ν) (hM : RM μ) (h0 : 0 ≤ t) (ht : t ≤ 900000000) (M : MI μ t) (I : XI ν μ) (hi : i + 3 < L) (hl : lv_has ls 8 [(3, .int (Int32.ofInt i)), (2, .ref (aM 0)), (1, .ref (aX 0)), (0, .ref b)]) (kend : ∀ (ν' μ' : Mem) (ls' : Array Slot), RM ν' → RM μ' → MI μ' (t + 1500000) → XI ν' μ' → lv_has ls' 8 [(3, .int (Int32.ofInt i)), (2, .ref (aM 0)), (1, .ref (aX 0)), (0, .ref b)] → LJ p l e s m args below meth c Q D ca A aX aM ν' μ' cells slots 904 ls' []) : LJ p l e s m args below meth c Q D ca A aX aM ν μ cells slots 633 ls [] := by
  by_cases hz : (xs (i + 3)).toInt = 0
  · obtain ⟨r, μ', ν', em, ex, M', I'⟩ := sim_alike ((xs (i + 1)).toInt) ((xs (i + 2)).toInt) 0 μ ν t h0 ht M I
    refine LJ.aload X dL_law_633 rfl (lv_at hl 2 rfl) ?_
    refine LJ.rd X (lv_at hl 3 rfl) (lv_at hl 0 rfl) (k := 1) (by omega) dL_law_634 dL_law_635 dL_law_636 dL_law_637 dL_law_638 ?_
    refine LJ.rd X (lv_at hl 3 rfl) (lv_at hl 0 rfl) (k := 2) (by omega) dL_law_639 dL_law_640 dL_law_641 dL_law_642 dL_law_643 ?_
    refine LJ.rd X (lv_at hl 3 rfl) (lv_at hl 0 rfl) (k := 3) (by omega) dL_law_644 dL_law_645 dL_law_646 dL_law_647 dL_law_648 ?_
    refine LJ.ifeq_y X 656 dL_law_649 (by decide) hz ?_
    refine LJ.iconst X (Int32.ofInt 0) dL_law_656 rfl ?_
    refine LJ.callX (as := [.inl ((xs (i + 1)).toInt), .inl ((xs (i + 2)).toInt), .inl (0)]) (e_xx_alike ex) X hN (RS_cons (to_in _) (RS_cons (to_in _) (RS_cons (show inR _ from by decide) RS_nil))) rfl cl_X7_alike hl.1 (Nat.le_of_ble_eq_true rfl) cq737 cq738 cq739 rfl dL_law_657 (fun hN' => ?_)
    refine LJ.aload X dL_law_660 rfl (lv_at hl 1 rfl) ?_
    refine LJ.rd X (lv_at hl 3 rfl) (lv_at hl 0 rfl) (k := 1) (by omega) dL_law_661 dL_law_662 dL_law_663 dL_law_664 dL_law_665 ?_
    refine LJ.rd X (lv_at hl 3 rfl) (lv_at hl 0 rfl) (k := 2) (by omega) dL_law_666 dL_law_667 dL_law_668 dL_law_669 dL_law_670 ?_
    refine LJ.rd X (lv_at hl 3 rfl) (lv_at hl 0 rfl) (k := 3) (by omega) dL_law_671 dL_law_672 dL_law_673 dL_law_674 dL_law_675 ?_
    refine LJ.ifeq_y X 683 dL_law_676 (by decide) hz ?_
    refine LJ.iconst X (Int32.ofInt 0) dL_law_683 rfl ?_
    refine LJ.callM (as := [.inl ((xs (i + 1)).toInt), .inl ((xs (i + 2)).toInt), .inl (0)]) (e_mm_alike em) X hM (RS_cons (to_in _) (RS_cons (to_in _) (RS_cons (show inR _ from by decide) RS_nil))) rfl cl_X8_alike hl.1 (Nat.le_of_ble_eq_true rfl) cq1108 cq1109 cq1110 rfl dL_law_684 (fun hM' => ?_)
    refine LJ.eq_y X 904 dL_law_687 (by decide) ?_
    exact kend ν' μ' ls hN' hM' M' I' hl
  · obtain ⟨r, μ', ν', em, ex, M', I'⟩ := sim_alike ((xs (i + 1)).toInt) ((xs (i + 2)).toInt) 1 μ ν t h0 ht M I
    refine LJ.aload X dL_law_633 rfl (lv_at hl 2 rfl) ?_
    refine LJ.rd X (lv_at hl 3 rfl) (lv_at hl 0 rfl) (k := 1) (by omega) dL_law_634 dL_law_635 dL_law_636 dL_law_637 dL_law_638 ?_
    refine LJ.rd X (lv_at hl 3 rfl) (lv_at hl 0 rfl) (k := 2) (by omega) dL_law_639 dL_law_640 dL_law_641 dL_law_642 dL_law_643 ?_
    refine LJ.rd X (lv_at hl 3 rfl) (lv_at hl 0 rfl) (k := 3) (by omega) dL_law_644 dL_law_645 dL_law_646 dL_law_647 dL_law_648 ?_
    refine LJ.ifeq_n X 656 dL_law_649 (by decide) (to_in _) hz ?_
    refine LJ.iconst X (Int32.ofInt 1) dL_law_652 rfl ?_
    refine LJ.goto X 657 dL_law_653 (by decide) ?_
    refine LJ.callX (as := [.inl ((xs (i + 1)).toInt), .inl ((xs (i + 2)).toInt), .inl (1)]) (e_xx_alike ex) X hN (RS_cons (to_in _) (RS_cons (to_in _) (RS_cons (show inR _ from by decide) RS_nil))) rfl cl_X7_alike hl.1 (Nat.le_of_ble_eq_true rfl) cq737 cq738 cq739 rfl dL_law_657 (fun hN' => ?_)
    refine LJ.aload X dL_law_660 rfl (lv_at hl 1 rfl) ?_
    refine LJ.rd X (lv_at hl 3 rfl) (lv_at hl 0 rfl) (k := 1) (by omega) dL_law_661 dL_law_662 dL_law_663 dL_law_664 dL_law_665 ?_
    refine LJ.rd X (lv_at hl 3 rfl) (lv_at hl 0 rfl) (k := 2) (by omega) dL_law_666 dL_law_667 dL_law_668 dL_law_669 dL_law_670 ?_
    refine LJ.rd X (lv_at hl 3 rfl) (lv_at hl 0 rfl) (k := 3) (by omega) dL_law_671 dL_law_672 dL_law_673 dL_law_674 dL_law_675 ?_
    refine LJ.ifeq_n X 683 dL_law_676 (by decide) (to_in _) hz ?_
    refine LJ.iconst X (Int32.ofInt 1) dL_law_679 rfl ?_
    refine LJ.goto X 684 dL_law_680 (by decide) ?_
    refine LJ.callM (as := [.inl ((xs (i + 1)).toInt), .inl ((xs (i + 2)).toInt), .inl (1)]) (e_mm_alike em) X hM (RS_cons (to_in _) (RS_cons (to_in _) (RS_cons (show inR _ from by decide) RS_nil))) rfl cl_X8_alike hl.1 (Nat.le_of_ble_eq_true rfl) cq1108 cq1109 cq1110 rfl dL_law_684 (fun hM' => ?_)
    refine LJ.eq_y X 904 dL_law_687 (by decide) ?_
    exact kend ν' μ' ls hN' hM' M' I' hl
set_option maxRecDepth 100000 in
theorem law_22 (X : LE D ca aX aM p s m args c A b L xs cells slots) (hN : RM ν) (hM : RM μ) (h0 : 0 ≤ t) (ht : t ≤ 900000000) (M : MI μ t) (I : XI ν μ) (hi : i + 3 < L) (hl : lv_has ls 8 [(3, .int (Int32.ofInt i)), (2, .ref (aM 0)), (1, .ref (aX 0)), (0, .ref b)]) (kend : ∀ (ν' μ' : Mem) (ls' : Array Slot), RM ν' → RM μ' → MI μ' (t + 1500000) → XI ν' μ' → lv_has ls' 8 [(3, .int (Int32.ofInt i)), (2, .ref (aM 0)), (1, .ref (aX 0)), (0, .ref b)] → LJ p l e s m args below meth c Q D ca A aX aM ν' μ' cells slots 904 ls' []) : LJ p l e s m args below meth c Q D ca A aX aM ν μ cells slots 692 ls [] := by
  obtain ⟨r, μ', ν', em, ex, M', I'⟩ := sim_shelf ((xs (i + 1)).toInt) ((xs (i + 2)).toInt) μ ν t h0 ht M I
  refine LJ.aload X dL_law_692 rfl (lv_at hl 2 rfl) ?_
  refine LJ.rd X (lv_at hl 3 rfl) (lv_at hl 0 rfl) (k := 1) (by omega) dL_law_693 dL_law_694 dL_law_695 dL_law_696 dL_law_697 ?_
  refine LJ.rd X (lv_at hl 3 rfl) (lv_at hl 0 rfl) (k := 2) (by omega) dL_law_698 dL_law_699 dL_law_700 dL_law_701 dL_law_702 ?_
  refine LJ.callX (as := [.inl ((xs (i + 1)).toInt), .inl ((xs (i + 2)).toInt)]) (e_xx_shelf ex) X hN (RS_cons (to_in _) (RS_cons (to_in _) RS_nil)) rfl cl_X7_shelf hl.1 (Nat.le_of_ble_eq_true rfl) cq745 cq746 cq747 rfl dL_law_703 (fun hN' => ?_)
  refine LJ.aload X dL_law_706 rfl (lv_at hl 1 rfl) ?_
  refine LJ.rd X (lv_at hl 3 rfl) (lv_at hl 0 rfl) (k := 1) (by omega) dL_law_707 dL_law_708 dL_law_709 dL_law_710 dL_law_711 ?_
  refine LJ.rd X (lv_at hl 3 rfl) (lv_at hl 0 rfl) (k := 2) (by omega) dL_law_712 dL_law_713 dL_law_714 dL_law_715 dL_law_716 ?_
  refine LJ.callM (as := [.inl ((xs (i + 1)).toInt), .inl ((xs (i + 2)).toInt)]) (e_mm_shelf em) X hM (RS_cons (to_in _) (RS_cons (to_in _) RS_nil)) rfl cl_X8_shelf hl.1 (Nat.le_of_ble_eq_true rfl) cq1112 cq1113 cq1114 rfl dL_law_717 (fun hM' => ?_)
  refine LJ.eq_y X 904 dL_law_720 (by decide) ?_
  exact kend ν' μ' ls hN' hM' M' I' hl
set_option maxRecDepth 100000 in
theorem law_23 (X : LE D ca aX aM p s m args c A b L xs cells slots) (hN : RM ν) (hM : RM μ) (h0 : 0 ≤ t) (ht : t ≤ 900000000) (M : MI μ t) (I : XI ν μ) (hi : i + 3 < L) (hl : lv_has ls 8 [(3, .int (Int32.ofInt i)), (2, .ref (aM 0)), (1, .ref (aX 0)), (0, .ref b)]) (kend : ∀ (ν' μ' : Mem) (ls' : Array Slot), RM ν' → RM μ' → MI μ' (t + 1500000) → XI ν' μ' → lv_has ls' 8 [(3, .int (Int32.ofInt i)), (2, .ref (aM 0)), (1, .ref (aX 0)), (0, .ref b)] → LJ p l e s m args below meth c Q D ca A aX aM ν' μ' cells slots 904 ls' []) : LJ p l e s m args below meth c Q D ca A aX aM ν μ cells slots 725 ls [] := by
  obtain ⟨r, em, ex⟩ := siq_waiting ((xs (i + 1)).toInt) μ ν t h0 ht M I
  refine LJ.aload X dL_law_725 rfl (lv_at hl 2 rfl) ?_
  refine LJ.rd X (lv_at hl 3 rfl) (lv_at hl 0 rfl) (k := 1) (by omega) dL_law_726 dL_law_727 dL_law_728 dL_law_729 dL_law_730 ?_
  refine LJ.callX (as := [.inl ((xs (i + 1)).toInt)]) (e_xx_waiting ex) X hN (RS_cons (to_in _) RS_nil) rfl cl_X7_waiting hl.1 (Nat.le_of_ble_eq_true rfl) cq766 cq767 cq768 rfl dL_law_731 (fun hN' => ?_)
  refine LJ.aload X dL_law_734 rfl (lv_at hl 1 rfl) ?_
  refine LJ.rd X (lv_at hl 3 rfl) (lv_at hl 0 rfl) (k := 1) (by omega) dL_law_735 dL_law_736 dL_law_737 dL_law_738 dL_law_739 ?_
  refine LJ.callM (as := [.inl ((xs (i + 1)).toInt)]) (e_mm_waiting em) X hM (RS_cons (to_in _) RS_nil) rfl cl_X8_waiting hl.1 (Nat.le_of_ble_eq_true rfl) cq1120 cq1121 cq1122 rfl dL_law_740 (fun hM' => ?_)
  refine LJ.eq_y X 904 dL_law_743 (by decide) ?_
  exact kend ν μ ls hN' hM' (MI_mono M (by omega)) I hl
set_option maxRecDepth 100000 in
theorem law_24 (X : LE D ca aX aM p s m args c A b L xs cells slots) (hN : RM ν) (hM : RM μ) (h0 : 0 ≤ t) (ht : t ≤ 900000000) (M : MI μ t) (I : XI ν μ) (hi : i + 3 < L) (hl : lv_has ls 8 [(3, .int (Int32.ofInt i)), (2, .ref (aM 0)), (1, .ref (aX 0)), (0, .ref b)]) (kend : ∀ (ν' μ' : Mem) (ls' : Array Slot), RM ν' → RM μ' → MI μ' (t + 1500000) → XI ν' μ' → lv_has ls' 8 [(3, .int (Int32.ofInt i)), (2, .ref (aM 0)), (1, .ref (aX 0)), (0, .ref b)] → LJ p l e s m args below meth c Q D ca A aX aM ν' μ' cells slots 904 ls' []) : LJ p l e s m args below meth c Q D ca A aX aM ν μ cells slots 748 ls [] := by
  obtain ⟨r, μ', ν', em, ex, M', I'⟩ := sim_count ((xs (i + 1)).toInt) μ ν t h0 ht M I
  refine LJ.aload X dL_law_748 rfl (lv_at hl 2 rfl) ?_
  refine LJ.rd X (lv_at hl 3 rfl) (lv_at hl 0 rfl) (k := 1) (by omega) dL_law_749 dL_law_750 dL_law_751 dL_law_752 dL_law_753 ?_
  refine LJ.callX (as := [.inl ((xs (i + 1)).toInt)]) (e_xx_count ex) X hN (RS_cons (to_in _) RS_nil) rfl cl_X7_count hl.1 (Nat.le_of_ble_eq_true rfl) cq770 cq771 cq772 rfl dL_law_754 (fun hN' => ?_)
  refine LJ.aload X dL_law_757 rfl (lv_at hl 1 rfl) ?_
  refine LJ.rd X (lv_at hl 3 rfl) (lv_at hl 0 rfl) (k := 1) (by omega) dL_law_758 dL_law_759 dL_law_760 dL_law_761 dL_law_762 ?_
  refine LJ.callM (as := [.inl ((xs (i + 1)).toInt)]) (e_mm_count em) X hM (RS_cons (to_in _) RS_nil) rfl cl_X8_count hl.1 (Nat.le_of_ble_eq_true rfl) cq1124 cq1125 cq1126 rfl dL_law_763 (fun hM' => ?_)
  refine LJ.eq_y X 904 dL_law_766 (by decide) ?_
  exact kend ν' μ' ls hN' hM' M' I' hl
set_option maxRecDepth 100000 in
theorem law_26 (X : LE D ca aX aM p s m args c A b L xs cells slots) (hN : RM ν) (hM : RM μ) (h0 : 0 ≤ t) (ht : t ≤ 900000000) (M : MI μ t) (I : XI ν μ) (hi : i + 3 < L) (hl : lv_has ls 8 [(3, .int (Int32.ofInt i)), (2, .ref (aM 0)), (1, .ref (aX 0)), (0, .ref b)]) (kend : ∀ (ν' μ' : Mem) (ls' : Array Slot), RM ν' → RM μ' → MI μ' (t + 1500000) → XI ν' μ' → lv_has ls' 8 [(3, .int (Int32.ofInt i)), (2, .ref (aM 0)), (1, .ref (aX 0)), (0, .ref b)] → LJ p l e s m args below meth c Q D ca A aX aM ν' μ' cells slots 904 ls' []) : LJ p l e s m args below meth c Q D ca A aX aM ν μ cells slots 812 ls [] := by
  obtain ⟨r, μ', ν', em, ex, M', I'⟩ := sim_fewest ((xs (i + 1)).toInt) ((xs (i + 2)).toInt) μ ν t h0 ht M I
  refine LJ.aload X dL_law_812 rfl (lv_at hl 2 rfl) ?_
  refine LJ.rd X (lv_at hl 3 rfl) (lv_at hl 0 rfl) (k := 1) (by omega) dL_law_813 dL_law_814 dL_law_815 dL_law_816 dL_law_817 ?_
  refine LJ.rd X (lv_at hl 3 rfl) (lv_at hl 0 rfl) (k := 2) (by omega) dL_law_818 dL_law_819 dL_law_820 dL_law_821 dL_law_822 ?_
  refine LJ.callX (as := [.inl ((xs (i + 1)).toInt), .inl ((xs (i + 2)).toInt)]) (e_xx_fewest ex) X hN (RS_cons (to_in _) (RS_cons (to_in _) RS_nil)) rfl cl_X7_fewest hl.1 (Nat.le_of_ble_eq_true rfl) cq790 cq791 cq792 rfl dL_law_823 (fun hN' => ?_)
  refine LJ.aload X dL_law_826 rfl (lv_at hl 1 rfl) ?_
  refine LJ.rd X (lv_at hl 3 rfl) (lv_at hl 0 rfl) (k := 1) (by omega) dL_law_827 dL_law_828 dL_law_829 dL_law_830 dL_law_831 ?_
  refine LJ.rd X (lv_at hl 3 rfl) (lv_at hl 0 rfl) (k := 2) (by omega) dL_law_832 dL_law_833 dL_law_834 dL_law_835 dL_law_836 ?_
  refine LJ.callM (as := [.inl ((xs (i + 1)).toInt), .inl ((xs (i + 2)).toInt)]) (e_mm_fewest em) X hM (RS_cons (to_in _) (RS_cons (to_in _) RS_nil)) rfl cl_X8_fewest hl.1 (Nat.le_of_ble_eq_true rfl) cq1140 cq1141 cq1142 rfl dL_law_837 (fun hM' => ?_)
  refine LJ.eq_y X 904 dL_law_840 (by decide) ?_
  exact kend ν' μ' ls hN' hM' M' I' hl
set_option maxRecDepth 100000 in
theorem law_27 (X : LE D ca aX aM p s m args c A b L xs cells slots) (hN : RM ν) (hM : RM μ) (h0 : 0 ≤ t) (ht : t ≤ 900000000) (M : MI μ t) (I : XI ν μ) (hi : i + 3 < L) (hl : lv_has ls 8 [(3, .int (Int32.ofInt i)), (2, .ref (aM 0)), (1, .ref (aX 0)), (0, .ref b)]) (kend : ∀ (ν' μ' : Mem) (ls' : Array Slot), RM ν' → RM μ' → MI μ' (t + 1500000) → XI ν' μ' → lv_has ls' 8 [(3, .int (Int32.ofInt i)), (2, .ref (aM 0)), (1, .ref (aX 0)), (0, .ref b)] → LJ p l e s m args below meth c Q D ca A aX aM ν' μ' cells slots 904 ls' []) : LJ p l e s m args below meth c Q D ca A aX aM ν μ cells slots 845 ls [] := by
  obtain ⟨r, μ', ν', em, ex, M', I'⟩ := sim_makes  μ ν t h0 ht M I
  refine LJ.aload X dL_law_845 rfl (lv_at hl 2 rfl) ?_
  refine LJ.callX (as := []) (e_xx_makes ex) X hN RS_nil rfl cl_X7_makes hl.1 (Nat.le_of_ble_eq_true rfl) cq811 cq812 cq813 rfl dL_law_846 (fun hN' => ?_)
  refine LJ.aload X dL_law_849 rfl (lv_at hl 1 rfl) ?_
  refine LJ.callM (as := []) (e_mm_makes em) X hM RS_nil rfl cl_X8_makes hl.1 (Nat.le_of_ble_eq_true rfl) cq1151 cq1152 cq1153 rfl dL_law_850 (fun hM' => ?_)
  refine LJ.eq_y X 904 dL_law_853 (by decide) ?_
  exact kend ν' μ' ls hN' hM' M' I' hl
set_option maxRecDepth 100000 in
theorem law_28 (X : LE D ca aX aM p s m args c A b L xs cells slots) (hN : RM ν) (hM : RM μ) (h0 : 0 ≤ t) (ht : t ≤ 900000000) (M : MI μ t) (I : XI ν μ) (hi : i + 3 < L) (hl : lv_has ls 8 [(3, .int (Int32.ofInt i)), (2, .ref (aM 0)), (1, .ref (aX 0)), (0, .ref b)]) (kend : ∀ (ν' μ' : Mem) (ls' : Array Slot), RM ν' → RM μ' → MI μ' (t + 1500000) → XI ν' μ' → lv_has ls' 8 [(3, .int (Int32.ofInt i)), (2, .ref (aM 0)), (1, .ref (aX 0)), (0, .ref b)] → LJ p l e s m args below meth c Q D ca A aX aM ν' μ' cells slots 904 ls' []) : LJ p l e s m args below meth c Q D ca A aX aM ν μ cells slots 858 ls [] := by
  obtain ⟨r, μ', ν', em, ex, M', I'⟩ := sim_needless  μ ν t h0 ht M I
  refine LJ.aload X dL_law_858 rfl (lv_at hl 2 rfl) ?_
  refine LJ.callX (as := []) (e_xx_needless ex) X hN RS_nil rfl cl_X7_needless hl.1 (Nat.le_of_ble_eq_true rfl) cq820 cq821 cq822 rfl dL_law_859 (fun hN' => ?_)
  refine LJ.aload X dL_law_862 rfl (lv_at hl 1 rfl) ?_
  refine LJ.callM (as := []) (e_mm_needless em) X hM RS_nil rfl cl_X8_needless hl.1 (Nat.le_of_ble_eq_true rfl) cq1155 cq1156 cq1157 rfl dL_law_863 (fun hM' => ?_)
  refine LJ.eq_y X 904 dL_law_866 (by decide) ?_
  exact kend ν' μ' ls hN' hM' M' I' hl
set_option maxRecDepth 100000 in
theorem law_29 (X : LE D ca aX aM p s m args c A b L xs cells slots) (hN : RM ν) (hM : RM μ) (h0 : 0 ≤ t) (ht : t ≤ 900000000) (M : MI μ t) (I : XI ν μ) (hi : i + 3 < L) (hl : lv_has ls 8 [(3, .int (Int32.ofInt i)), (2, .ref (aM 0)), (1, .ref (aX 0)), (0, .ref b)]) (kend : ∀ (ν' μ' : Mem) (ls' : Array Slot), RM ν' → RM μ' → MI μ' (t + 1500000) → XI ν' μ' → lv_has ls' 8 [(3, .int (Int32.ofInt i)), (2, .ref (aM 0)), (1, .ref (aX 0)), (0, .ref b)] → LJ p l e s m args below meth c Q D ca A aX aM ν' μ' cells slots 904 ls' []) : LJ p l e s m args below meth c Q D ca A aX aM ν μ cells slots 871 ls [] := by
  obtain ⟨r, μ', ν', em, ex, M', I'⟩ := sim_ifPoured ((xs (i + 1)).toInt) ((xs (i + 2)).toInt) μ ν t h0 ht M I
  refine LJ.aload X dL_law_871 rfl (lv_at hl 2 rfl) ?_
  refine LJ.rd X (lv_at hl 3 rfl) (lv_at hl 0 rfl) (k := 1) (by omega) dL_law_872 dL_law_873 dL_law_874 dL_law_875 dL_law_876 ?_
  refine LJ.rd X (lv_at hl 3 rfl) (lv_at hl 0 rfl) (k := 2) (by omega) dL_law_877 dL_law_878 dL_law_879 dL_law_880 dL_law_881 ?_
  refine LJ.callX (as := [.inl ((xs (i + 1)).toInt), .inl ((xs (i + 2)).toInt)]) (e_xx_ifPoured ex) X hN (RS_cons (to_in _) (RS_cons (to_in _) RS_nil)) rfl cl_X7_ifPoured hl.1 (Nat.le_of_ble_eq_true rfl) cq828 cq829 cq830 rfl dL_law_882 (fun hN' => ?_)
  refine LJ.aload X dL_law_885 rfl (lv_at hl 1 rfl) ?_
  refine LJ.rd X (lv_at hl 3 rfl) (lv_at hl 0 rfl) (k := 1) (by omega) dL_law_886 dL_law_887 dL_law_888 dL_law_889 dL_law_890 ?_
  refine LJ.rd X (lv_at hl 3 rfl) (lv_at hl 0 rfl) (k := 2) (by omega) dL_law_891 dL_law_892 dL_law_893 dL_law_894 dL_law_895 ?_
  refine LJ.callM (as := [.inl ((xs (i + 1)).toInt), .inl ((xs (i + 2)).toInt)]) (e_mm_ifPoured em) X hM (RS_cons (to_in _) (RS_cons (to_in _) RS_nil)) rfl cl_X8_ifPoured hl.1 (Nat.le_of_ble_eq_true rfl) cq1159 cq1160 cq1161 rfl dL_law_896 (fun hM' => ?_)
  refine LJ.eq_y X 904 dL_law_899 (by decide) ?_
  exact kend ν' μ' ls hN' hM' M' I' hl
set_option maxRecDepth 100000 in
theorem law_25 (X : LE D ca aX aM p s m args c A b L xs cells slots) (hN : RM ν) (hM : RM μ) (h0 : 0 ≤ t) (ht : t ≤ 900000000) (M : MI μ t) (I : XI ν μ) (hi : i + 3 < L) (hl : lv_has ls 8 [(3, .int (Int32.ofInt i)), (2, .ref (aM 0)), (1, .ref (aX 0)), (0, .ref b)]) (kend : ∀ (ν' μ' : Mem) (ls' : Array Slot), RM ν' → RM μ' → MI μ' (t + 1500000) → XI ν' μ' → lv_has ls' 8 [(3, .int (Int32.ofInt i)), (2, .ref (aM 0)), (1, .ref (aX 0)), (0, .ref b)] → LJ p l e s m args below meth c Q D ca A aX aM ν' μ' cells slots 904 ls' []) : LJ p l e s m args below meth c Q D ca A aX aM ν μ cells slots 771 ls [] := by
  refine LJ.aload X dL_law_771 rfl (lv_at hl 2 rfl) ?_
  refine LJ.callXd (as := []) (e_lostX) X hN RS_nil rfl cl_X7_lost hl.1 (Nat.le_of_ble_eq_true rfl) cq786 cq787 cq788 rfl dL_law_772 ?_
  intro H locs hP hP2 hS
  refine lv_dstore (lv' := [(4, .double (lostV (ν 16 1) (ν 16 0))), (3, .int (Int32.ofInt i)), (2, .ref (aM 0)), (1, .ref (aX 0)), (0, .ref b)]) X.1.1 X.1.2.1 dL_law_775 hl (by decide) rfl (fun ls hl => ?_)
  revert H locs
  show LJ p l e s m args below meth c Q D ca A aX aM ν μ cells slots 777 ls []
  refine LJ.aload X dL_law_777 rfl (lv_at hl 2 rfl) ?_
  refine LJ.callMd (as := []) (e_lostM) X hM RS_nil rfl cl_X8_lost hl.1 (Nat.le_of_ble_eq_true rfl) cq1136 cq1137 cq1138 rfl dL_law_778 ?_
  intro H locs hP hP2 hS
  have hx := X.1.1
  have hb := X.1.2.1
  refine lv_dstore (lv' := [(6, .double (lostV (μ 1 53) (μ 1 52))), (4, .double (lostV (ν 16 1) (ν 16 0))), (3, .int (Int32.ofInt i)), (2, .ref (aM 0)), (1, .ref (aX 0)), (0, .ref b)]) hx hb dL_law_781 hl (by decide) rfl (fun ls hl => ?_)
  refine lv_dload hx hb dL_law_783 (lv_at hl 1 rfl) ?_
  refine lv_dload hx hb dL_law_785 (lv_at hl 0 rfl) ?_
  refine lv_dcmp hx hb dL_law_787 ?_
  rw [lost_same I, lostV_cmp _ (hM 1 52)]
  refine lv_if_eq (tgt := 809) hx hb dL_law_788 (by decide) (fun _ => ?_) (fun z => absurd (by decide) z)
  refine lv_goto (tgt := 904) hx hb dL_law_809 (by decide) ?_
  exact kend ν μ ls hN hM (MI_mono M (by omega)) I (lv_sub hl [2, 3, 4, 5] rfl) H locs hP hP2 hS
end LAWC
