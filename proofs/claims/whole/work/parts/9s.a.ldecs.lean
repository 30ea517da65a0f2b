/-! the law's own walk: instructions and links -/
theorem dL_228 : decode code 228 = .ok (.aload_n 1, 1) := by decide +kernel
theorem rL_229 : RdI 229 1 := by unfold RdI; decide +kernel
theorem rL_234 : RdI 234 2 := by unfold RdI; decide +kernel
theorem rL_239 : RdI 239 3 := by unfold RdI; decide +kernel
theorem rL_244 : RdI 244 4 := by unfold RdI; decide +kernel
theorem rL_249 : RdI 249 5 := by unfold RdI; decide +kernel
theorem dL_254 : decode code 254 = .ok (.invokevirtual 13, 3) := by decide +kernel
theorem dL_257 : decode code 257 = .ok (.aload_n 2, 1) := by decide +kernel
theorem rL_258 : RdI 258 1 := by unfold RdI; decide +kernel
theorem rL_263 : RdI 263 2 := by unfold RdI; decide +kernel
theorem rL_268 : RdI 268 3 := by unfold RdI; decide +kernel
theorem rL_273 : RdI 273 4 := by unfold RdI; decide +kernel
theorem rL_278 : RdI 278 5 := by unfold RdI; decide +kernel
theorem dL_283 : decode code 283 = .ok (.invokevirtual 17, 3) := by decide +kernel
theorem dL_286 : decode code 286 = .ok (.if_icmp .eq 1773, 3) := by decide +kernel
theorem dL_291 : decode code 291 = .ok (.aload_n 1, 1) := by decide +kernel
theorem rL_292 : RdI 292 1 := by unfold RdI; decide +kernel
theorem dL_297 : decode code 297 = .ok (.invokevirtual 18, 3) := by decide +kernel
theorem dL_300 : decode code 300 = .ok (.aload_n 2, 1) := by decide +kernel
theorem rL_301 : RdI 301 1 := by unfold RdI; decide +kernel
theorem dL_306 : decode code 306 = .ok (.invokevirtual 22, 3) := by decide +kernel
theorem dL_309 : decode code 309 = .ok (.if_icmp .eq 1750, 3) := by decide +kernel
theorem dL_314 : decode code 314 = .ok (.aload_n 1, 1) := by decide +kernel
theorem dL_315 : decode code 315 = .ok (.invokevirtual 23, 3) := by decide +kernel
theorem dL_318 : decode code 318 = .ok (.aload_n 2, 1) := by decide +kernel
theorem dL_319 : decode code 319 = .ok (.invokevirtual 27, 3) := by decide +kernel
theorem dL_322 : decode code 322 = .ok (.if_icmp .eq 1737, 3) := by decide +kernel
theorem dL_327 : decode code 327 = .ok (.aload_n 1, 1) := by decide +kernel
theorem rL_328 : RdI 328 1 := by unfold RdI; decide +kernel
theorem dL_333 : decode code 333 = .ok (.invokevirtual 28, 3) := by decide +kernel
theorem dL_336 : decode code 336 = .ok (.aload_n 2, 1) := by decide +kernel
theorem rL_337 : RdI 337 1 := by unfold RdI; decide +kernel
theorem dL_342 : decode code 342 = .ok (.invokevirtual 32, 3) := by decide +kernel
theorem dL_345 : decode code 345 = .ok (.if_icmp .eq 1714, 3) := by decide +kernel
theorem dL_350 : decode code 350 = .ok (.aload_n 1, 1) := by decide +kernel
theorem dL_351 : decode code 351 = .ok (.invokevirtual 33, 3) := by decide +kernel
theorem dL_354 : decode code 354 = .ok (.aload_n 2, 1) := by decide +kernel
theorem dL_355 : decode code 355 = .ok (.invokevirtual 36, 3) := by decide +kernel
theorem dL_358 : decode code 358 = .ok (.if_icmp .eq 1701, 3) := by decide +kernel
theorem dL_363 : decode code 363 = .ok (.aload_n 1, 1) := by decide +kernel
theorem rL_364 : RdI 364 1 := by unfold RdI; decide +kernel
theorem dL_369 : decode code 369 = .ok (.invokevirtual 37, 3) := by decide +kernel
theorem dL_372 : decode code 372 = .ok (.aload_n 2, 1) := by decide +kernel
theorem rL_373 : RdI 373 1 := by unfold RdI; decide +kernel
theorem dL_378 : decode code 378 = .ok (.invokevirtual 40, 3) := by decide +kernel
theorem dL_381 : decode code 381 = .ok (.if_icmp .eq 1678, 3) := by decide +kernel
theorem dL_386 : decode code 386 = .ok (.aload_n 1, 1) := by decide +kernel
theorem rL_387 : RdI 387 1 := by unfold RdI; decide +kernel
theorem dL_392 : decode code 392 = .ok (.invokevirtual 41, 3) := by decide +kernel
theorem dL_395 : decode code 395 = .ok (.aload_n 2, 1) := by decide +kernel
theorem rL_396 : RdI 396 1 := by unfold RdI; decide +kernel
theorem dL_401 : decode code 401 = .ok (.invokevirtual 44, 3) := by decide +kernel
theorem dL_404 : decode code 404 = .ok (.if_icmp .eq 1655, 3) := by decide +kernel
theorem dL_409 : decode code 409 = .ok (.aload_n 1, 1) := by decide +kernel
theorem rL_410 : RdI 410 1 := by unfold RdI; decide +kernel
theorem rL_415 : RdI 415 2 := by unfold RdI; decide +kernel
theorem rL_420 : RdI 420 3 := by unfold RdI; decide +kernel
theorem dL_425 : decode code 425 = .ok (.invokevirtual 45, 3) := by decide +kernel
theorem dL_428 : decode code 428 = .ok (.aload_n 2, 1) := by decide +kernel
theorem rL_429 : RdI 429 1 := by unfold RdI; decide +kernel
theorem rL_434 : RdI 434 2 := by unfold RdI; decide +kernel
theorem rL_439 : RdI 439 3 := by unfold RdI; decide +kernel
theorem dL_444 : decode code 444 = .ok (.invokevirtual 49, 3) := by decide +kernel
theorem dL_447 : decode code 447 = .ok (.if_icmp .eq 1612, 3) := by decide +kernel
theorem dL_452 : decode code 452 = .ok (.aload_n 1, 1) := by decide +kernel
theorem rL_453 : RdI 453 1 := by unfold RdI; decide +kernel
theorem rL_458 : RdI 458 2 := by unfold RdI; decide +kernel
theorem dL_463 : decode code 463 = .ok (.invokevirtual 50, 3) := by decide +kernel
theorem dL_466 : decode code 466 = .ok (.aload_n 2, 1) := by decide +kernel
theorem rL_467 : RdI 467 1 := by unfold RdI; decide +kernel
theorem rL_472 : RdI 472 2 := by unfold RdI; decide +kernel
theorem dL_477 : decode code 477 = .ok (.invokevirtual 54, 3) := by decide +kernel
theorem dL_480 : decode code 480 = .ok (.if_icmp .eq 1579, 3) := by decide +kernel
theorem dL_485 : decode code 485 = .ok (.aload_n 1, 1) := by decide +kernel
theorem rL_486 : RdI 486 1 := by unfold RdI; decide +kernel
theorem rL_491 : RdI 491 2 := by unfold RdI; decide +kernel
theorem dL_496 : decode code 496 = .ok (.invokevirtual 55, 3) := by decide +kernel
theorem dL_499 : decode code 499 = .ok (.aload_n 2, 1) := by decide +kernel
theorem rL_500 : RdI 500 1 := by unfold RdI; decide +kernel
theorem rL_505 : RdI 505 2 := by unfold RdI; decide +kernel
theorem dL_510 : decode code 510 = .ok (.invokevirtual 58, 3) := by decide +kernel
theorem dL_513 : decode code 513 = .ok (.if_icmp .eq 1546, 3) := by decide +kernel
theorem dL_518 : decode code 518 = .ok (.aload_n 1, 1) := by decide +kernel
theorem rL_519 : RdI 519 1 := by unfold RdI; decide +kernel
theorem rL_524 : RdI 524 2 := by unfold RdI; decide +kernel
theorem dL_529 : decode code 529 = .ok (.invokevirtual 59, 3) := by decide +kernel
theorem dL_532 : decode code 532 = .ok (.aload_n 2, 1) := by decide +kernel
theorem rL_533 : RdI 533 1 := by unfold RdI; decide +kernel
theorem rL_538 : RdI 538 2 := by unfold RdI; decide +kernel
theorem dL_543 : decode code 543 = .ok (.invokevirtual 62, 3) := by decide +kernel
theorem dL_546 : decode code 546 = .ok (.if_icmp .eq 1513, 3) := by decide +kernel
theorem dL_551 : decode code 551 = .ok (.aload_n 1, 1) := by decide +kernel
theorem rL_552 : RdI 552 1 := by unfold RdI; decide +kernel
theorem rL_557 : RdI 557 2 := by unfold RdI; decide +kernel
theorem rL_562 : RdI 562 3 := by unfold RdI; decide +kernel
theorem dL_567 : decode code 567 = .ok (.invokevirtual 63, 3) := by decide +kernel
theorem dL_570 : decode code 570 = .ok (.aload_n 2, 1) := by decide +kernel
theorem rL_571 : RdI 571 1 := by unfold RdI; decide +kernel
theorem rL_576 : RdI 576 2 := by unfold RdI; decide +kernel
theorem rL_581 : RdI 581 3 := by unfold RdI; decide +kernel
theorem dL_586 : decode code 586 = .ok (.invokevirtual 66, 3) := by decide +kernel
theorem dL_589 : decode code 589 = .ok (.if_icmp .eq 1470, 3) := by decide +kernel
theorem dL_594 : decode code 594 = .ok (.aload_n 1, 1) := by decide +kernel
theorem rL_595 : RdI 595 1 := by unfold RdI; decide +kernel
theorem rL_600 : RdI 600 2 := by unfold RdI; decide +kernel
theorem rL_605 : RdI 605 3 := by unfold RdI; decide +kernel
theorem rL_610 : RdI 610 4 := by unfold RdI; decide +kernel
theorem rL_615 : RdI 615 5 := by unfold RdI; decide +kernel
theorem rL_620 : RdB 620 6 := by unfold RdB; decide +kernel
theorem dL_626 : decode code 626 = .ok (.invokevirtual 67, 3) := by decide +kernel
theorem dL_629 : decode code 629 = .ok (.aload_n 2, 1) := by decide +kernel
theorem rL_630 : RdI 630 1 := by unfold RdI; decide +kernel
theorem rL_635 : RdI 635 2 := by unfold RdI; decide +kernel
theorem rL_640 : RdI 640 3 := by unfold RdI; decide +kernel
theorem rL_645 : RdI 645 4 := by unfold RdI; decide +kernel
theorem rL_650 : RdI 650 5 := by unfold RdI; decide +kernel
theorem rL_655 : RdB 655 6 := by unfold RdB; decide +kernel
theorem dL_661 : decode code 661 = .ok (.invokevirtual 71, 3) := by decide +kernel
theorem dL_664 : decode code 664 = .ok (.if_icmp .eq 1395, 3) := by decide +kernel
theorem dL_669 : decode code 669 = .ok (.aload_n 1, 1) := by decide +kernel
theorem rL_670 : RdI 670 1 := by unfold RdI; decide +kernel
theorem rL_675 : RdI 675 2 := by unfold RdI; decide +kernel
theorem rL_680 : RdI 680 3 := by unfold RdI; decide +kernel
theorem rL_685 : RdI 685 4 := by unfold RdI; decide +kernel
theorem rL_690 : RdI 690 5 := by unfold RdI; decide +kernel
theorem dL_695 : decode code 695 = .ok (.invokevirtual 72, 3) := by decide +kernel
theorem dL_698 : decode code 698 = .ok (.aload_n 2, 1) := by decide +kernel
theorem rL_699 : RdI 699 1 := by unfold RdI; decide +kernel
theorem rL_704 : RdI 704 2 := by unfold RdI; decide +kernel
theorem rL_709 : RdI 709 3 := by unfold RdI; decide +kernel
theorem rL_714 : RdI 714 4 := by unfold RdI; decide +kernel
theorem rL_719 : RdI 719 5 := by unfold RdI; decide +kernel
theorem dL_724 : decode code 724 = .ok (.invokevirtual 75, 3) := by decide +kernel
theorem dL_727 : decode code 727 = .ok (.if_icmp .eq 1332, 3) := by decide +kernel
theorem dL_732 : decode code 732 = .ok (.aload_n 1, 1) := by decide +kernel
theorem rL_733 : RdI 733 1 := by unfold RdI; decide +kernel
theorem rL_738 : RdI 738 2 := by unfold RdI; decide +kernel
theorem rL_743 : RdI 743 3 := by unfold RdI; decide +kernel
theorem rL_748 : RdI 748 4 := by unfold RdI; decide +kernel
theorem rL_753 : RdI 753 5 := by unfold RdI; decide +kernel
theorem rL_758 : RdB 758 6 := by unfold RdB; decide +kernel
theorem rL_764 : RdB 764 7 := by unfold RdB; decide +kernel
theorem rL_770 : RdB 770 8 := by unfold RdB; decide +kernel
theorem dL_776 : decode code 776 = .ok (.invokevirtual 76, 3) := by decide +kernel
theorem dL_779 : decode code 779 = .ok (.aload_n 2, 1) := by decide +kernel
theorem rL_780 : RdI 780 1 := by unfold RdI; decide +kernel
theorem rL_785 : RdI 785 2 := by unfold RdI; decide +kernel
theorem rL_790 : RdI 790 3 := by unfold RdI; decide +kernel
theorem rL_795 : RdI 795 4 := by unfold RdI; decide +kernel
theorem rL_800 : RdI 800 5 := by unfold RdI; decide +kernel
theorem rL_805 : RdB 805 6 := by unfold RdB; decide +kernel
theorem rL_811 : RdB 811 7 := by unfold RdB; decide +kernel
theorem rL_817 : RdB 817 8 := by unfold RdB; decide +kernel
theorem dL_823 : decode code 823 = .ok (.invokevirtual 80, 3) := by decide +kernel
theorem dL_826 : decode code 826 = .ok (.if_icmp .eq 1233, 3) := by decide +kernel
theorem dL_831 : decode code 831 = .ok (.aload_n 1, 1) := by decide +kernel
theorem rL_832 : RdI 832 1 := by unfold RdI; decide +kernel
theorem rL_837 : RdI 837 2 := by unfold RdI; decide +kernel
theorem rL_842 : RdI 842 3 := by unfold RdI; decide +kernel
theorem rL_847 : RdI 847 4 := by unfold RdI; decide +kernel
theorem rL_852 : RdI 852 5 := by unfold RdI; decide +kernel
theorem rL_857 : RdB 857 6 := by unfold RdB; decide +kernel
theorem zL_863 : RdZ 863 := by unfold RdZ; decide +kernel
theorem rL_871 : RdB 871 7 := by unfold RdB; decide +kernel
theorem zL_877 : RdZ 877 := by unfold RdZ; decide +kernel
theorem dL_885 : decode code 885 = .ok (.invokevirtual 81, 3) := by decide +kernel
theorem dL_888 : decode code 888 = .ok (.aload_n 2, 1) := by decide +kernel
theorem rL_889 : RdI 889 1 := by unfold RdI; decide +kernel
theorem rL_894 : RdI 894 2 := by unfold RdI; decide +kernel
theorem rL_899 : RdI 899 3 := by unfold RdI; decide +kernel
theorem rL_904 : RdI 904 4 := by unfold RdI; decide +kernel
theorem rL_909 : RdI 909 5 := by unfold RdI; decide +kernel
theorem rL_914 : RdB 914 6 := by unfold RdB; decide +kernel
theorem zL_920 : RdZ 920 := by unfold RdZ; decide +kernel
theorem rL_928 : RdB 928 7 := by unfold RdB; decide +kernel
theorem zL_934 : RdZ 934 := by unfold RdZ; decide +kernel
theorem dL_942 : decode code 942 = .ok (.invokevirtual 85, 3) := by decide +kernel
theorem dL_945 : decode code 945 = .ok (.if_icmp .eq 1114, 3) := by decide +kernel
theorem dL_950 : decode code 950 = .ok (.aload_n 1, 1) := by decide +kernel
theorem rL_951 : RdI 951 1 := by unfold RdI; decide +kernel
theorem rL_956 : RdI 956 2 := by unfold RdI; decide +kernel
theorem rL_961 : RdI 961 3 := by unfold RdI; decide +kernel
theorem rL_966 : RdI 966 4 := by unfold RdI; decide +kernel
theorem rL_971 : RdI 971 5 := by unfold RdI; decide +kernel
theorem rL_976 : RdB 976 6 := by unfold RdB; decide +kernel
theorem rL_982 : RdB 982 7 := by unfold RdB; decide +kernel
theorem dL_988 : decode code 988 = .ok (.invokevirtual 86, 3) := by decide +kernel
theorem dL_991 : decode code 991 = .ok (.aload_n 2, 1) := by decide +kernel
theorem rL_992 : RdI 992 1 := by unfold RdI; decide +kernel
theorem rL_997 : RdI 997 2 := by unfold RdI; decide +kernel
theorem rL_1002 : RdI 1002 3 := by unfold RdI; decide +kernel
theorem rL_1007 : RdI 1007 4 := by unfold RdI; decide +kernel
theorem rL_1012 : RdI 1012 5 := by unfold RdI; decide +kernel
theorem rL_1017 : RdB 1017 6 := by unfold RdB; decide +kernel
theorem rL_1023 : RdB 1023 7 := by unfold RdB; decide +kernel
theorem dL_1029 : decode code 1029 = .ok (.invokevirtual 90, 3) := by decide +kernel
theorem dL_1032 : decode code 1032 = .ok (.if_icmp .eq 1027, 3) := by decide +kernel
theorem dL_1037 : decode code 1037 = .ok (.aload_n 1, 1) := by decide +kernel
theorem rL_1038 : RdI 1038 1 := by unfold RdI; decide +kernel
theorem rL_1043 : RdI 1043 2 := by unfold RdI; decide +kernel
theorem rL_1048 : RdI 1048 3 := by unfold RdI; decide +kernel
theorem rL_1053 : RdI 1053 4 := by unfold RdI; decide +kernel
theorem rL_1058 : RdI 1058 5 := by unfold RdI; decide +kernel
theorem rL_1063 : RdB 1063 6 := by unfold RdB; decide +kernel
theorem rL_1069 : RdB 1069 7 := by unfold RdB; decide +kernel
theorem zL_1075 : RdZ 1075 := by unfold RdZ; decide +kernel
theorem rL_1083 : RdB 1083 8 := by unfold RdB; decide +kernel
theorem dL_1089 : decode code 1089 = .ok (.invokevirtual 91, 3) := by decide +kernel
theorem dL_1092 : decode code 1092 = .ok (.aload_n 2, 1) := by decide +kernel
theorem rL_1093 : RdI 1093 1 := by unfold RdI; decide +kernel
theorem rL_1098 : RdI 1098 2 := by unfold RdI; decide +kernel
theorem rL_1103 : RdI 1103 3 := by unfold RdI; decide +kernel
theorem rL_1108 : RdI 1108 4 := by unfold RdI; decide +kernel
theorem rL_1113 : RdI 1113 5 := by unfold RdI; decide +kernel
theorem rL_1118 : RdB 1118 6 := by unfold RdB; decide +kernel
theorem rL_1124 : RdB 1124 7 := by unfold RdB; decide +kernel
theorem zL_1130 : RdZ 1130 := by unfold RdZ; decide +kernel
theorem rL_1138 : RdB 1138 8 := by unfold RdB; decide +kernel
theorem dL_1144 : decode code 1144 = .ok (.invokevirtual 95, 3) := by decide +kernel
theorem dL_1147 : decode code 1147 = .ok (.if_icmp .eq 912, 3) := by decide +kernel
theorem dL_1152 : decode code 1152 = .ok (.aload_n 1, 1) := by decide +kernel
theorem rL_1153 : RdI 1153 1 := by unfold RdI; decide +kernel
theorem rL_1158 : RdI 1158 2 := by unfold RdI; decide +kernel
theorem dL_1163 : decode code 1163 = .ok (.invokevirtual 96, 3) := by decide +kernel
theorem dL_1166 : decode code 1166 = .ok (.aload_n 2, 1) := by decide +kernel
theorem rL_1167 : RdI 1167 1 := by unfold RdI; decide +kernel
theorem rL_1172 : RdI 1172 2 := by unfold RdI; decide +kernel
theorem dL_1177 : decode code 1177 = .ok (.invokevirtual 99, 3) := by decide +kernel
theorem dL_1180 : decode code 1180 = .ok (.if_icmp .eq 879, 3) := by decide +kernel
theorem dL_1185 : decode code 1185 = .ok (.aload_n 1, 1) := by decide +kernel
theorem rL_1186 : RdI 1186 1 := by unfold RdI; decide +kernel
theorem rL_1191 : RdI 1191 2 := by unfold RdI; decide +kernel
theorem rL_1196 : RdI 1196 3 := by unfold RdI; decide +kernel
theorem dL_1201 : decode code 1201 = .ok (.invokevirtual 100, 3) := by decide +kernel
theorem dL_1204 : decode code 1204 = .ok (.aload_n 2, 1) := by decide +kernel
theorem rL_1205 : RdI 1205 1 := by unfold RdI; decide +kernel
theorem rL_1210 : RdI 1210 2 := by unfold RdI; decide +kernel
theorem rL_1215 : RdI 1215 3 := by unfold RdI; decide +kernel
theorem dL_1220 : decode code 1220 = .ok (.invokevirtual 104, 3) := by decide +kernel
theorem dL_1223 : decode code 1223 = .ok (.if_icmp .eq 836, 3) := by decide +kernel
theorem dL_1228 : decode code 1228 = .ok (.aload_n 1, 1) := by decide +kernel
theorem rL_1229 : RdI 1229 1 := by unfold RdI; decide +kernel
theorem rL_1234 : RdI 1234 2 := by unfold RdI; decide +kernel
theorem dL_1239 : decode code 1239 = .ok (.invokevirtual 105, 3) := by decide +kernel
theorem dL_1242 : decode code 1242 = .ok (.aload_n 2, 1) := by decide +kernel
theorem rL_1243 : RdI 1243 1 := by unfold RdI; decide +kernel
theorem rL_1248 : RdI 1248 2 := by unfold RdI; decide +kernel
theorem dL_1253 : decode code 1253 = .ok (.invokevirtual 109, 3) := by decide +kernel
theorem dL_1256 : decode code 1256 = .ok (.if_icmp .eq 803, 3) := by decide +kernel
theorem dL_1261 : decode code 1261 = .ok (.aload_n 1, 1) := by decide +kernel
theorem dL_1262 : decode code 1262 = .ok (.invokevirtual 110, 3) := by decide +kernel
theorem dL_1265 : decode code 1265 = .ok (.aload_n 2, 1) := by decide +kernel
theorem dL_1266 : decode code 1266 = .ok (.invokevirtual 113, 3) := by decide +kernel
theorem dL_1269 : decode code 1269 = .ok (.if_icmp .eq 790, 3) := by decide +kernel
theorem dL_1274 : decode code 1274 = .ok (.aload_n 1, 1) := by decide +kernel
theorem rL_1275 : RdI 1275 1 := by unfold RdI; decide +kernel
theorem rL_1280 : RdI 1280 2 := by unfold RdI; decide +kernel
theorem dL_1285 : decode code 1285 = .ok (.invokevirtual 114, 3) := by decide +kernel
theorem dL_1288 : decode code 1288 = .ok (.aload_n 2, 1) := by decide +kernel
theorem rL_1289 : RdI 1289 1 := by unfold RdI; decide +kernel
theorem rL_1294 : RdI 1294 2 := by unfold RdI; decide +kernel
theorem dL_1299 : decode code 1299 = .ok (.invokevirtual 117, 3) := by decide +kernel
theorem dL_1302 : decode code 1302 = .ok (.if_icmp .eq 757, 3) := by decide +kernel
theorem dL_1307 : decode code 1307 = .ok (.aload_n 1, 1) := by decide +kernel
theorem rL_1308 : RdI 1308 1 := by unfold RdI; decide +kernel
theorem rL_1313 : RdI 1313 2 := by unfold RdI; decide +kernel
theorem rL_1318 : RdI 1318 3 := by unfold RdI; decide +kernel
theorem zL_1323 : RdZ 1323 := by unfold RdZ; decide +kernel
theorem dL_1331 : decode code 1331 = .ok (.invokevirtual 118, 3) := by decide +kernel
theorem dL_1334 : decode code 1334 = .ok (.aload_n 2, 1) := by decide +kernel
theorem rL_1335 : RdI 1335 1 := by unfold RdI; decide +kernel
theorem rL_1340 : RdI 1340 2 := by unfold RdI; decide +kernel
theorem rL_1345 : RdI 1345 3 := by unfold RdI; decide +kernel
theorem zL_1350 : RdZ 1350 := by unfold RdZ; decide +kernel
theorem dL_1358 : decode code 1358 = .ok (.invokevirtual 122, 3) := by decide +kernel
theorem dL_1361 : decode code 1361 = .ok (.if_icmp .eq 698, 3) := by decide +kernel
theorem dL_1366 : decode code 1366 = .ok (.aload_n 1, 1) := by decide +kernel
theorem rL_1367 : RdI 1367 1 := by unfold RdI; decide +kernel
theorem dL_1372 : decode code 1372 = .ok (.invokevirtual 123, 3) := by decide +kernel
theorem dL_1375 : decode code 1375 = .ok (.aload_n 2, 1) := by decide +kernel
theorem rL_1376 : RdI 1376 1 := by unfold RdI; decide +kernel
theorem dL_1381 : decode code 1381 = .ok (.invokevirtual 127, 3) := by decide +kernel
theorem dL_1384 : decode code 1384 = .ok (.lcmp, 1) := by decide +kernel
theorem dL_1385 : decode code 1385 = .ok (.ifCond .eq 674, 3) := by decide +kernel
theorem dL_1390 : decode code 1390 = .ok (.aload_n 1, 1) := by decide +kernel
theorem rL_1391 : RdI 1391 1 := by unfold RdI; decide +kernel
theorem dL_1396 : decode code 1396 = .ok (.invokevirtual 128, 3) := by decide +kernel
theorem dL_1399 : decode code 1399 = .ok (.aload_n 2, 1) := by decide +kernel
theorem rL_1400 : RdI 1400 1 := by unfold RdI; decide +kernel
theorem dL_1405 : decode code 1405 = .ok (.invokevirtual 131, 3) := by decide +kernel
theorem dL_1408 : decode code 1408 = .ok (.lcmp, 1) := by decide +kernel
theorem dL_1409 : decode code 1409 = .ok (.ifCond .eq 650, 3) := by decide +kernel
theorem dL_1414 : decode code 1414 = .ok (.aload_n 1, 1) := by decide +kernel
theorem rL_1415 : RdI 1415 1 := by unfold RdI; decide +kernel
theorem rL_1420 : RdI 1420 2 := by unfold RdI; decide +kernel
theorem dL_1425 : decode code 1425 = .ok (.i2l, 1) := by decide +kernel
theorem dL_1426 : decode code 1426 = .ok (.bipush 32, 2) := by decide +kernel
theorem dL_1428 : decode code 1428 = .ok (.lshl, 1) := by decide +kernel
theorem rL_1429 : RdI 1429 3 := by unfold RdI; decide +kernel
theorem dL_1434 : decode code 1434 = .ok (.i2l, 1) := by decide +kernel
theorem dL_1435 : decode code 1435 = .ok (.ldc2_w 132, 3) := by decide +kernel
theorem dL_1438 : decode code 1438 = .ok (.land, 1) := by decide +kernel
theorem dL_1439 : decode code 1439 = .ok (.lor, 1) := by decide +kernel
theorem dL_1440 : decode code 1440 = .ok (.invokevirtual 134, 3) := by decide +kernel
theorem dL_1443 : decode code 1443 = .ok (.aload_n 2, 1) := by decide +kernel
theorem rL_1444 : RdI 1444 1 := by unfold RdI; decide +kernel
theorem rL_1449 : RdI 1449 2 := by unfold RdI; decide +kernel
theorem dL_1454 : decode code 1454 = .ok (.i2l, 1) := by decide +kernel
theorem dL_1455 : decode code 1455 = .ok (.bipush 32, 2) := by decide +kernel
theorem dL_1457 : decode code 1457 = .ok (.lshl, 1) := by decide +kernel
theorem rL_1458 : RdI 1458 3 := by unfold RdI; decide +kernel
theorem dL_1463 : decode code 1463 = .ok (.i2l, 1) := by decide +kernel
theorem dL_1464 : decode code 1464 = .ok (.ldc2_w 132, 3) := by decide +kernel
theorem dL_1467 : decode code 1467 = .ok (.land, 1) := by decide +kernel
theorem dL_1468 : decode code 1468 = .ok (.lor, 1) := by decide +kernel
theorem dL_1469 : decode code 1469 = .ok (.invokevirtual 138, 3) := by decide +kernel
theorem dL_1472 : decode code 1472 = .ok (.if_icmp .eq 587, 3) := by decide +kernel
theorem dL_1477 : decode code 1477 = .ok (.aload_n 1, 1) := by decide +kernel
theorem rL_1478 : RdI 1478 1 := by unfold RdI; decide +kernel
theorem rL_1483 : RdI 1483 2 := by unfold RdI; decide +kernel
theorem dL_1488 : decode code 1488 = .ok (.invokevirtual 139, 3) := by decide +kernel
theorem dL_1491 : decode code 1491 = .ok (.aload_n 2, 1) := by decide +kernel
theorem rL_1492 : RdI 1492 1 := by unfold RdI; decide +kernel
theorem rL_1497 : RdI 1497 2 := by unfold RdI; decide +kernel
theorem dL_1502 : decode code 1502 = .ok (.invokevirtual 142, 3) := by decide +kernel
theorem dL_1505 : decode code 1505 = .ok (.if_icmp .eq 554, 3) := by decide +kernel
theorem dL_1510 : decode code 1510 = .ok (.aload_n 1, 1) := by decide +kernel
theorem rL_1511 : RdI 1511 1 := by unfold RdI; decide +kernel
theorem rL_1516 : RdI 1516 2 := by unfold RdI; decide +kernel
theorem dL_1521 : decode code 1521 = .ok (.invokevirtual 143, 3) := by decide +kernel
theorem dL_1524 : decode code 1524 = .ok (.aload_n 2, 1) := by decide +kernel
theorem rL_1525 : RdI 1525 1 := by unfold RdI; decide +kernel
theorem rL_1530 : RdI 1530 2 := by unfold RdI; decide +kernel
theorem dL_1535 : decode code 1535 = .ok (.invokevirtual 146, 3) := by decide +kernel
theorem dL_1538 : decode code 1538 = .ok (.if_icmp .eq 521, 3) := by decide +kernel
theorem dL_1543 : decode code 1543 = .ok (.aload_n 1, 1) := by decide +kernel
theorem rL_1544 : RdI 1544 1 := by unfold RdI; decide +kernel
theorem dL_1549 : decode code 1549 = .ok (.invokevirtual 147, 3) := by decide +kernel
theorem dL_1552 : decode code 1552 = .ok (.aload_n 2, 1) := by decide +kernel
theorem rL_1553 : RdI 1553 1 := by unfold RdI; decide +kernel
theorem dL_1558 : decode code 1558 = .ok (.invokevirtual 150, 3) := by decide +kernel
theorem dL_1561 : decode code 1561 = .ok (.lcmp, 1) := by decide +kernel
theorem dL_1562 : decode code 1562 = .ok (.ifCond .eq 497, 3) := by decide +kernel
theorem dL_1567 : decode code 1567 = .ok (.aload_n 1, 1) := by decide +kernel
theorem rL_1568 : RdI 1568 1 := by unfold RdI; decide +kernel
theorem dL_1573 : decode code 1573 = .ok (.invokevirtual 151, 3) := by decide +kernel
theorem dL_1576 : decode code 1576 = .ok (.aload_n 2, 1) := by decide +kernel
theorem rL_1577 : RdI 1577 1 := by unfold RdI; decide +kernel
theorem dL_1582 : decode code 1582 = .ok (.invokevirtual 154, 3) := by decide +kernel
theorem dL_1585 : decode code 1585 = .ok (.if_icmp .eq 474, 3) := by decide +kernel
theorem dL_1590 : decode code 1590 = .ok (.aload_n 1, 1) := by decide +kernel
theorem dL_1591 : decode code 1591 = .ok (.invokevirtual 155, 3) := by decide +kernel
theorem dL_1594 : decode code 1594 = .ok (.aload_n 2, 1) := by decide +kernel
theorem dL_1595 : decode code 1595 = .ok (.invokevirtual 158, 3) := by decide +kernel
theorem dL_1598 : decode code 1598 = .ok (.if_icmp .eq 461, 3) := by decide +kernel
theorem dL_1603 : decode code 1603 = .ok (.aload_n 1, 1) := by decide +kernel
theorem rL_1604 : RdI 1604 1 := by unfold RdI; decide +kernel
theorem dL_1609 : decode code 1609 = .ok (.invokevirtual 159, 3) := by decide +kernel
theorem dL_1612 : decode code 1612 = .ok (.aload_n 2, 1) := by decide +kernel
theorem rL_1613 : RdI 1613 1 := by unfold RdI; decide +kernel
theorem dL_1618 : decode code 1618 = .ok (.invokevirtual 162, 3) := by decide +kernel
theorem dL_1621 : decode code 1621 = .ok (.if_icmp .eq 438, 3) := by decide +kernel
theorem dL_1626 : decode code 1626 = .ok (.aload_n 1, 1) := by decide +kernel
theorem rL_1627 : RdI 1627 1 := by unfold RdI; decide +kernel
theorem rL_1632 : RdI 1632 2 := by unfold RdI; decide +kernel
theorem zL_1637 : RdZ 1637 := by unfold RdZ; decide +kernel
theorem dL_1645 : decode code 1645 = .ok (.invokevirtual 163, 3) := by decide +kernel
theorem dL_1648 : decode code 1648 = .ok (.aload_n 2, 1) := by decide +kernel
theorem rL_1649 : RdI 1649 1 := by unfold RdI; decide +kernel
theorem rL_1654 : RdI 1654 2 := by unfold RdI; decide +kernel
theorem zL_1659 : RdZ 1659 := by unfold RdZ; decide +kernel
theorem dL_1667 : decode code 1667 = .ok (.invokevirtual 167, 3) := by decide +kernel
theorem dL_1670 : decode code 1670 = .ok (.if_icmp .eq 389, 3) := by decide +kernel
theorem dL_1675 : decode code 1675 = .ok (.aload_n 1, 1) := by decide +kernel
theorem dL_1676 : decode code 1676 = .ok (.invokevirtual 168, 3) := by decide +kernel
theorem dL_1679 : decode code 1679 = .ok (.aload_n 2, 1) := by decide +kernel
theorem dL_1680 : decode code 1680 = .ok (.invokevirtual 171, 3) := by decide +kernel
theorem dL_1683 : decode code 1683 = .ok (.if_icmp .eq 376, 3) := by decide +kernel
theorem dL_1688 : decode code 1688 = .ok (.aload_n 1, 1) := by decide +kernel
theorem dL_1689 : decode code 1689 = .ok (.invokevirtual 172, 3) := by decide +kernel
theorem dL_1692 : decode code 1692 = .ok (.aload_n 2, 1) := by decide +kernel
theorem dL_1693 : decode code 1693 = .ok (.invokevirtual 175, 3) := by decide +kernel
theorem dL_1696 : decode code 1696 = .ok (.if_icmp .eq 363, 3) := by decide +kernel
theorem dL_1701 : decode code 1701 = .ok (.aload_n 1, 1) := by decide +kernel
theorem rL_1702 : RdI 1702 1 := by unfold RdI; decide +kernel
theorem rL_1707 : RdI 1707 2 := by unfold RdI; decide +kernel
theorem zL_1712 : RdZ 1712 := by unfold RdZ; decide +kernel
theorem dL_1720 : decode code 1720 = .ok (.invokevirtual 176, 3) := by decide +kernel
theorem dL_1723 : decode code 1723 = .ok (.aload_n 2, 1) := by decide +kernel
theorem rL_1724 : RdI 1724 1 := by unfold RdI; decide +kernel
theorem rL_1729 : RdI 1729 2 := by unfold RdI; decide +kernel
theorem zL_1734 : RdZ 1734 := by unfold RdZ; decide +kernel
theorem dL_1742 : decode code 1742 = .ok (.invokevirtual 179, 3) := by decide +kernel
theorem dL_1745 : decode code 1745 = .ok (.if_icmp .eq 314, 3) := by decide +kernel
theorem dL_1750 : decode code 1750 = .ok (.aload_n 1, 1) := by decide +kernel
theorem rL_1751 : RdI 1751 1 := by unfold RdI; decide +kernel
theorem rL_1756 : RdI 1756 2 := by unfold RdI; decide +kernel
theorem rL_1761 : RdI 1761 3 := by unfold RdI; decide +kernel
theorem rL_1766 : RdI 1766 4 := by unfold RdI; decide +kernel
theorem rL_1771 : RdI 1771 5 := by unfold RdI; decide +kernel
theorem rL_1776 : RdB 1776 6 := by unfold RdB; decide +kernel
theorem dL_1782 : decode code 1782 = .ok (.invokevirtual 180, 3) := by decide +kernel
theorem dL_1785 : decode code 1785 = .ok (.aload_n 2, 1) := by decide +kernel
theorem rL_1786 : RdI 1786 1 := by unfold RdI; decide +kernel
theorem rL_1791 : RdI 1791 2 := by unfold RdI; decide +kernel
theorem rL_1796 : RdI 1796 3 := by unfold RdI; decide +kernel
theorem rL_1801 : RdI 1801 4 := by unfold RdI; decide +kernel
theorem rL_1806 : RdI 1806 5 := by unfold RdI; decide +kernel
theorem rL_1811 : RdB 1811 6 := by unfold RdB; decide +kernel
theorem dL_1817 : decode code 1817 = .ok (.invokevirtual 183, 3) := by decide +kernel
theorem dL_1820 : decode code 1820 = .ok (.if_icmp .eq 239, 3) := by decide +kernel
theorem dL_1825 : decode code 1825 = .ok (.aload_n 1, 1) := by decide +kernel
theorem rL_1826 : RdI 1826 1 := by unfold RdI; decide +kernel
theorem rL_1831 : RdI 1831 2 := by unfold RdI; decide +kernel
theorem rL_1836 : RdI 1836 3 := by unfold RdI; decide +kernel
theorem rL_1841 : RdI 1841 4 := by unfold RdI; decide +kernel
theorem dL_1846 : decode code 1846 = .ok (.invokevirtual 184, 3) := by decide +kernel
theorem dL_1849 : decode code 1849 = .ok (.aload_n 2, 1) := by decide +kernel
theorem rL_1850 : RdI 1850 1 := by unfold RdI; decide +kernel
theorem rL_1855 : RdI 1855 2 := by unfold RdI; decide +kernel
theorem rL_1860 : RdI 1860 3 := by unfold RdI; decide +kernel
theorem rL_1865 : RdI 1865 4 := by unfold RdI; decide +kernel
theorem dL_1870 : decode code 1870 = .ok (.invokevirtual 188, 3) := by decide +kernel
theorem dL_1873 : decode code 1873 = .ok (.if_icmp .eq 186, 3) := by decide +kernel
theorem dL_1878 : decode code 1878 = .ok (.aload_n 1, 1) := by decide +kernel
theorem rL_1879 : RdI 1879 1 := by unfold RdI; decide +kernel
theorem rL_1884 : RdI 1884 2 := by unfold RdI; decide +kernel
theorem rL_1889 : RdI 1889 3 := by unfold RdI; decide +kernel
theorem zL_1894 : RdZ 1894 := by unfold RdZ; decide +kernel
theorem dL_1902 : decode code 1902 = .ok (.invokevirtual 189, 3) := by decide +kernel
theorem dL_1905 : decode code 1905 = .ok (.aload_n 2, 1) := by decide +kernel
theorem rL_1906 : RdI 1906 1 := by unfold RdI; decide +kernel
theorem rL_1911 : RdI 1911 2 := by unfold RdI; decide +kernel
theorem rL_1916 : RdI 1916 3 := by unfold RdI; decide +kernel
theorem zL_1921 : RdZ 1921 := by unfold RdZ; decide +kernel
theorem dL_1929 : decode code 1929 = .ok (.invokevirtual 192, 3) := by decide +kernel
theorem dL_1932 : decode code 1932 = .ok (.if_icmp .eq 127, 3) := by decide +kernel
theorem dL_1937 : decode code 1937 = .ok (.aload_n 1, 1) := by decide +kernel
theorem rL_1938 : RdI 1938 1 := by unfold RdI; decide +kernel
theorem dL_1943 : decode code 1943 = .ok (.invokevirtual 193, 3) := by decide +kernel
theorem dL_1946 : decode code 1946 = .ok (.aload_n 2, 1) := by decide +kernel
theorem rL_1947 : RdI 1947 1 := by unfold RdI; decide +kernel
theorem dL_1952 : decode code 1952 = .ok (.invokevirtual 196, 3) := by decide +kernel
theorem dL_1955 : decode code 1955 = .ok (.if_icmp .eq 104, 3) := by decide +kernel
theorem dL_1960 : decode code 1960 = .ok (.aload_n 1, 1) := by decide +kernel
theorem rL_1961 : RdI 1961 1 := by unfold RdI; decide +kernel
theorem rL_1966 : RdI 1966 2 := by unfold RdI; decide +kernel
theorem zL_1971 : RdZ 1971 := by unfold RdZ; decide +kernel
theorem dL_1979 : decode code 1979 = .ok (.invokevirtual 197, 3) := by decide +kernel
theorem dL_1982 : decode code 1982 = .ok (.aload_n 2, 1) := by decide +kernel
theorem rL_1983 : RdI 1983 1 := by unfold RdI; decide +kernel
theorem rL_1988 : RdI 1988 2 := by unfold RdI; decide +kernel
theorem zL_1993 : RdZ 1993 := by unfold RdZ; decide +kernel
theorem dL_2001 : decode code 2001 = .ok (.invokevirtual 201, 3) := by decide +kernel
theorem dL_2004 : decode code 2004 = .ok (.lcmp, 1) := by decide +kernel
theorem dL_2005 : decode code 2005 = .ok (.ifCond .eq 54, 3) := by decide +kernel
theorem dL_2010 : decode code 2010 = .ok (.aload_n 1, 1) := by decide +kernel
theorem dL_2011 : decode code 2011 = .ok (.invokevirtual 202, 3) := by decide +kernel
theorem dL_2014 : decode code 2014 = .ok (.aload_n 2, 1) := by decide +kernel
theorem dL_2015 : decode code 2015 = .ok (.invokevirtual 205, 3) := by decide +kernel
theorem dL_2018 : decode code 2018 = .ok (.if_icmp .eq 41, 3) := by decide +kernel
theorem dL_2023 : decode code 2023 = .ok (.aload_n 1, 1) := by decide +kernel
theorem rL_2024 : RdI 2024 1 := by unfold RdI; decide +kernel
theorem dL_2029 : decode code 2029 = .ok (.invokevirtual 206, 3) := by decide +kernel
theorem dL_2032 : decode code 2032 = .ok (.aload_n 2, 1) := by decide +kernel
theorem rL_2033 : RdI 2033 1 := by unfold RdI; decide +kernel
theorem dL_2038 : decode code 2038 = .ok (.invokevirtual 209, 3) := by decide +kernel
theorem dL_2041 : decode code 2041 = .ok (.if_icmp .eq 18, 3) := by decide +kernel
theorem dL_2046 : decode code 2046 = .ok (.aload_n 1, 1) := by decide +kernel
theorem dL_2047 : decode code 2047 = .ok (.invokevirtual 210, 3) := by decide +kernel
theorem dL_2050 : decode code 2050 = .ok (.aload_n 2, 1) := by decide +kernel
theorem dL_2051 : decode code 2051 = .ok (.invokevirtual 214, 3) := by decide +kernel
theorem dL_2054 : decode code 2054 = .ok (.if_icmp .eq 5, 3) := by decide +kernel
theorem kL_13 : LkV RL 13 yX11_feed cX11_feed 6 (some .int) 5 := ⟨List.mem_of_getElem? (i := 719) (by decide +kernel), List.mem_of_getElem? (i := 178) (by decide +kernel), List.mem_of_getElem? (i := 717) (by decide +kernel), List.mem_of_getElem? (i := 718) (by decide +kernel), ⟨by decide +kernel, by decide +kernel, by decide +kernel⟩, Or.inl (List.mem_of_getElem? (i := 716) (by decide +kernel))⟩
theorem kL_17 : LkV RL 17 yX12_feed cX12_feed 8 (some .int) 5 := ⟨List.mem_of_getElem? (i := 1648) (by decide +kernel), List.mem_of_getElem? (i := 195) (by decide +kernel), List.mem_of_getElem? (i := 1646) (by decide +kernel), List.mem_of_getElem? (i := 1647) (by decide +kernel), ⟨by decide +kernel, by decide +kernel, by decide +kernel⟩, Or.inl (List.mem_of_getElem? (i := 1645) (by decide +kernel))⟩
theorem kL_18 : LkV RL 18 yX11_end cX11_end 2 (some .boolean) 1 := ⟨List.mem_of_getElem? (i := 727) (by decide +kernel), List.mem_of_getElem? (i := 178) (by decide +kernel), List.mem_of_getElem? (i := 725) (by decide +kernel), List.mem_of_getElem? (i := 726) (by decide +kernel), ⟨by decide +kernel, by decide +kernel, by decide +kernel⟩, Or.inl (List.mem_of_getElem? (i := 724) (by decide +kernel))⟩
theorem kL_22 : LkV RL 22 yX12_end cX12_end 2 (some .boolean) 1 := ⟨List.mem_of_getElem? (i := 1652) (by decide +kernel), List.mem_of_getElem? (i := 195) (by decide +kernel), List.mem_of_getElem? (i := 1650) (by decide +kernel), List.mem_of_getElem? (i := 1651) (by decide +kernel), ⟨by decide +kernel, by decide +kernel, by decide +kernel⟩, Or.inl (List.mem_of_getElem? (i := 1649) (by decide +kernel))⟩
theorem kL_23 : LkV RL 23 yX11_field cX11_field 3 (some .int) 0 := ⟨List.mem_of_getElem? (i := 731) (by decide +kernel), List.mem_of_getElem? (i := 178) (by decide +kernel), List.mem_of_getElem? (i := 729) (by decide +kernel), List.mem_of_getElem? (i := 730) (by decide +kernel), ⟨by decide +kernel, by decide +kernel, by decide +kernel⟩, Or.inl (List.mem_of_getElem? (i := 728) (by decide +kernel))⟩
theorem kL_27 : LkV RL 27 yX12_field cX12_field 2 (some .int) 0 := ⟨List.mem_of_getElem? (i := 1856) (by decide +kernel), List.mem_of_getElem? (i := 195) (by decide +kernel), List.mem_of_getElem? (i := 1854) (by decide +kernel), List.mem_of_getElem? (i := 1855) (by decide +kernel), ⟨by decide +kernel, by decide +kernel, by decide +kernel⟩, Or.inl (List.mem_of_getElem? (i := 1853) (by decide +kernel))⟩
theorem kL_28 : LkV RL 28 yX11_law cX11_law 5 (some .int) 1 := ⟨List.mem_of_getElem? (i := 891) (by decide +kernel), List.mem_of_getElem? (i := 178) (by decide +kernel), List.mem_of_getElem? (i := 889) (by decide +kernel), List.mem_of_getElem? (i := 890) (by decide +kernel), ⟨by decide +kernel, by decide +kernel, by decide +kernel⟩, Or.inl (List.mem_of_getElem? (i := 888) (by decide +kernel))⟩
theorem kL_32 : LkV RL 32 yX12_law cX12_law 2 (some .int) 1 := ⟨List.mem_of_getElem? (i := 1924) (by decide +kernel), List.mem_of_getElem? (i := 195) (by decide +kernel), List.mem_of_getElem? (i := 1922) (by decide +kernel), List.mem_of_getElem? (i := 1923) (by decide +kernel), ⟨by decide +kernel, by decide +kernel, by decide +kernel⟩, Or.inl (List.mem_of_getElem? (i := 1921) (by decide +kernel))⟩
theorem kL_33 : LkV RL 33 yX11_plan cX11_plan 3 (some .int) 0 := ⟨List.mem_of_getElem? (i := 895) (by decide +kernel), List.mem_of_getElem? (i := 178) (by decide +kernel), List.mem_of_getElem? (i := 893) (by decide +kernel), List.mem_of_getElem? (i := 894) (by decide +kernel), ⟨by decide +kernel, by decide +kernel, by decide +kernel⟩, Or.inl (List.mem_of_getElem? (i := 892) (by decide +kernel))⟩
theorem kL_36 : LkV RL 36 yX12_plan cX12_plan 2 (some .int) 0 := ⟨List.mem_of_getElem? (i := 1656) (by decide +kernel), List.mem_of_getElem? (i := 195) (by decide +kernel), List.mem_of_getElem? (i := 1654) (by decide +kernel), List.mem_of_getElem? (i := 1655) (by decide +kernel), ⟨by decide +kernel, by decide +kernel, by decide +kernel⟩, Or.inl (List.mem_of_getElem? (i := 1653) (by decide +kernel))⟩
theorem kL_37 : LkV RL 37 yX11_fault cX11_fault 2 (some .int) 1 := ⟨List.mem_of_getElem? (i := 921) (by decide +kernel), List.mem_of_getElem? (i := 178) (by decide +kernel), List.mem_of_getElem? (i := 919) (by decide +kernel), List.mem_of_getElem? (i := 920) (by decide +kernel), ⟨by decide +kernel, by decide +kernel, by decide +kernel⟩, Or.inl (List.mem_of_getElem? (i := 918) (by decide +kernel))⟩
theorem kL_40 : LkV RL 40 yX12_fault cX12_fault 2 (some .int) 1 := ⟨List.mem_of_getElem? (i := 1928) (by decide +kernel), List.mem_of_getElem? (i := 195) (by decide +kernel), List.mem_of_getElem? (i := 1926) (by decide +kernel), List.mem_of_getElem? (i := 1927) (by decide +kernel), ⟨by decide +kernel, by decide +kernel, by decide +kernel⟩, Or.inl (List.mem_of_getElem? (i := 1925) (by decide +kernel))⟩
theorem kL_41 : LkV RL 41 yX11_has cX11_has 2 (some .int) 1 := ⟨List.mem_of_getElem? (i := 925) (by decide +kernel), List.mem_of_getElem? (i := 178) (by decide +kernel), List.mem_of_getElem? (i := 923) (by decide +kernel), List.mem_of_getElem? (i := 924) (by decide +kernel), ⟨by decide +kernel, by decide +kernel, by decide +kernel⟩, Or.inl (List.mem_of_getElem? (i := 922) (by decide +kernel))⟩
theorem kL_44 : LkV RL 44 yX12_has cX12_has 4 (some .int) 1 := ⟨List.mem_of_getElem? (i := 1932) (by decide +kernel), List.mem_of_getElem? (i := 195) (by decide +kernel), List.mem_of_getElem? (i := 1930) (by decide +kernel), List.mem_of_getElem? (i := 1931) (by decide +kernel), ⟨by decide +kernel, by decide +kernel, by decide +kernel⟩, Or.inl (List.mem_of_getElem? (i := 1929) (by decide +kernel))⟩
theorem kL_45 : LkV RL 45 yX11_letter cX11_letter 6 (some .int) 3 := ⟨List.mem_of_getElem? (i := 941) (by decide +kernel), List.mem_of_getElem? (i := 178) (by decide +kernel), List.mem_of_getElem? (i := 939) (by decide +kernel), List.mem_of_getElem? (i := 940) (by decide +kernel), ⟨by decide +kernel, by decide +kernel, by decide +kernel⟩, Or.inl (List.mem_of_getElem? (i := 938) (by decide +kernel))⟩
theorem kL_49 : LkV RL 49 yX12_letter cX12_letter 9 (some .int) 3 := ⟨List.mem_of_getElem? (i := 1936) (by decide +kernel), List.mem_of_getElem? (i := 195) (by decide +kernel), List.mem_of_getElem? (i := 1934) (by decide +kernel), List.mem_of_getElem? (i := 1935) (by decide +kernel), ⟨by decide +kernel, by decide +kernel, by decide +kernel⟩, Or.inl (List.mem_of_getElem? (i := 1933) (by decide +kernel))⟩
theorem kL_50 : LkV RL 50 yX11_sight cX11_sight 3 (some .int) 2 := ⟨List.mem_of_getElem? (i := 952) (by decide +kernel), List.mem_of_getElem? (i := 178) (by decide +kernel), List.mem_of_getElem? (i := 950) (by decide +kernel), List.mem_of_getElem? (i := 951) (by decide +kernel), ⟨by decide +kernel, by decide +kernel, by decide +kernel⟩, Or.inl (List.mem_of_getElem? (i := 949) (by decide +kernel))⟩
theorem kL_54 : LkV RL 54 yX12_sight cX12_sight 3 (some .int) 2 := ⟨List.mem_of_getElem? (i := 1945) (by decide +kernel), List.mem_of_getElem? (i := 195) (by decide +kernel), List.mem_of_getElem? (i := 1943) (by decide +kernel), List.mem_of_getElem? (i := 1944) (by decide +kernel), ⟨by decide +kernel, by decide +kernel, by decide +kernel⟩, Or.inl (List.mem_of_getElem? (i := 1942) (by decide +kernel))⟩
theorem kL_55 : LkV RL 55 yX11_piece cX11_piece 3 (some .int) 2 := ⟨List.mem_of_getElem? (i := 960) (by decide +kernel), List.mem_of_getElem? (i := 178) (by decide +kernel), List.mem_of_getElem? (i := 958) (by decide +kernel), List.mem_of_getElem? (i := 959) (by decide +kernel), ⟨by decide +kernel, by decide +kernel, by decide +kernel⟩, Or.inl (List.mem_of_getElem? (i := 957) (by decide +kernel))⟩
theorem kL_58 : LkV RL 58 yX12_piece cX12_piece 3 (some .int) 2 := ⟨List.mem_of_getElem? (i := 1954) (by decide +kernel), List.mem_of_getElem? (i := 195) (by decide +kernel), List.mem_of_getElem? (i := 1952) (by decide +kernel), List.mem_of_getElem? (i := 1953) (by decide +kernel), ⟨by decide +kernel, by decide +kernel, by decide +kernel⟩, Or.inl (List.mem_of_getElem? (i := 1951) (by decide +kernel))⟩
theorem kL_59 : LkV RL 59 yX11_pieceHas cX11_pieceHas 3 (some .int) 2 := ⟨List.mem_of_getElem? (i := 964) (by decide +kernel), List.mem_of_getElem? (i := 178) (by decide +kernel), List.mem_of_getElem? (i := 962) (by decide +kernel), List.mem_of_getElem? (i := 963) (by decide +kernel), ⟨by decide +kernel, by decide +kernel, by decide +kernel⟩, Or.inl (List.mem_of_getElem? (i := 961) (by decide +kernel))⟩
theorem kL_62 : LkV RL 62 yX12_pieceHas cX12_pieceHas 3 (some .int) 2 := ⟨List.mem_of_getElem? (i := 1958) (by decide +kernel), List.mem_of_getElem? (i := 195) (by decide +kernel), List.mem_of_getElem? (i := 1956) (by decide +kernel), List.mem_of_getElem? (i := 1957) (by decide +kernel), ⟨by decide +kernel, by decide +kernel, by decide +kernel⟩, Or.inl (List.mem_of_getElem? (i := 1955) (by decide +kernel))⟩
theorem kL_63 : LkV RL 63 yX11_light cX11_light 4 (some .int) 3 := ⟨List.mem_of_getElem? (i := 972) (by decide +kernel), List.mem_of_getElem? (i := 178) (by decide +kernel), List.mem_of_getElem? (i := 970) (by decide +kernel), List.mem_of_getElem? (i := 971) (by decide +kernel), ⟨by decide +kernel, by decide +kernel, by decide +kernel⟩, Or.inl (List.mem_of_getElem? (i := 969) (by decide +kernel))⟩
theorem kL_66 : LkV RL 66 yX12_light cX12_light 4 (some .int) 3 := ⟨List.mem_of_getElem? (i := 1966) (by decide +kernel), List.mem_of_getElem? (i := 195) (by decide +kernel), List.mem_of_getElem? (i := 1964) (by decide +kernel), List.mem_of_getElem? (i := 1965) (by decide +kernel), ⟨by decide +kernel, by decide +kernel, by decide +kernel⟩, Or.inl (List.mem_of_getElem? (i := 1963) (by decide +kernel))⟩
theorem kL_67 : LkV RL 67 yX11_carries cX11_carries 8 (some .int) 6 := ⟨List.mem_of_getElem? (i := 988) (by decide +kernel), List.mem_of_getElem? (i := 178) (by decide +kernel), List.mem_of_getElem? (i := 986) (by decide +kernel), List.mem_of_getElem? (i := 987) (by decide +kernel), ⟨by decide +kernel, by decide +kernel, by decide +kernel⟩, Or.inl (List.mem_of_getElem? (i := 985) (by decide +kernel))⟩
theorem kL_71 : LkV RL 71 yX12_carries cX12_carries 7 (some .int) 6 := ⟨List.mem_of_getElem? (i := 1970) (by decide +kernel), List.mem_of_getElem? (i := 195) (by decide +kernel), List.mem_of_getElem? (i := 1968) (by decide +kernel), List.mem_of_getElem? (i := 1969) (by decide +kernel), ⟨by decide +kernel, by decide +kernel, by decide +kernel⟩, Or.inl (List.mem_of_getElem? (i := 1967) (by decide +kernel))⟩
theorem kL_72 : LkV RL 72 yX11_says cX11_says 7 (some .int) 5 := ⟨List.mem_of_getElem? (i := 1021) (by decide +kernel), List.mem_of_getElem? (i := 178) (by decide +kernel), List.mem_of_getElem? (i := 1019) (by decide +kernel), List.mem_of_getElem? (i := 1020) (by decide +kernel), ⟨by decide +kernel, by decide +kernel, by decide +kernel⟩, Or.inl (List.mem_of_getElem? (i := 1018) (by decide +kernel))⟩
theorem kL_75 : LkV RL 75 yX12_says cX12_says 6 (some .int) 5 := ⟨List.mem_of_getElem? (i := 1979) (by decide +kernel), List.mem_of_getElem? (i := 195) (by decide +kernel), List.mem_of_getElem? (i := 1977) (by decide +kernel), List.mem_of_getElem? (i := 1978) (by decide +kernel), ⟨by decide +kernel, by decide +kernel, by decide +kernel⟩, Or.inl (List.mem_of_getElem? (i := 1976) (by decide +kernel))⟩
theorem kL_76 : LkV RL 76 yX11_whole cX11_whole 15 (some .int) 8 := ⟨List.mem_of_getElem? (i := 1031) (by decide +kernel), List.mem_of_getElem? (i := 178) (by decide +kernel), List.mem_of_getElem? (i := 1029) (by decide +kernel), List.mem_of_getElem? (i := 1030) (by decide +kernel), ⟨by decide +kernel, by decide +kernel, by decide +kernel⟩, Or.inl (List.mem_of_getElem? (i := 1028) (by decide +kernel))⟩
theorem kL_80 : LkV RL 80 yX12_whole cX12_whole 15 (some .int) 8 := ⟨List.mem_of_getElem? (i := 2136) (by decide +kernel), List.mem_of_getElem? (i := 195) (by decide +kernel), List.mem_of_getElem? (i := 2134) (by decide +kernel), List.mem_of_getElem? (i := 2135) (by decide +kernel), ⟨by decide +kernel, by decide +kernel, by decide +kernel⟩, Or.inl (List.mem_of_getElem? (i := 2133) (by decide +kernel))⟩
theorem kL_81 : LkV RL 81 yX11_odds cX11_odds 13 (some .int) 7 := ⟨List.mem_of_getElem? (i := 1043) (by decide +kernel), List.mem_of_getElem? (i := 178) (by decide +kernel), List.mem_of_getElem? (i := 1041) (by decide +kernel), List.mem_of_getElem? (i := 1042) (by decide +kernel), ⟨by decide +kernel, by decide +kernel, by decide +kernel⟩, Or.inl (List.mem_of_getElem? (i := 1040) (by decide +kernel))⟩
theorem kL_85 : LkV RL 85 yX12_odds cX12_odds 11 (some .int) 7 := ⟨List.mem_of_getElem? (i := 1983) (by decide +kernel), List.mem_of_getElem? (i := 195) (by decide +kernel), List.mem_of_getElem? (i := 1981) (by decide +kernel), List.mem_of_getElem? (i := 1982) (by decide +kernel), ⟨by decide +kernel, by decide +kernel, by decide +kernel⟩, Or.inl (List.mem_of_getElem? (i := 1980) (by decide +kernel))⟩
theorem kL_86 : LkV RL 86 yX11_draw cX11_draw 9 (some .int) 7 := ⟨List.mem_of_getElem? (i := 1057) (by decide +kernel), List.mem_of_getElem? (i := 178) (by decide +kernel), List.mem_of_getElem? (i := 1055) (by decide +kernel), List.mem_of_getElem? (i := 1056) (by decide +kernel), ⟨by decide +kernel, by decide +kernel, by decide +kernel⟩, Or.inl (List.mem_of_getElem? (i := 1054) (by decide +kernel))⟩
theorem kL_90 : LkV RL 90 yX12_draw cX12_draw 10 (some .int) 7 := ⟨List.mem_of_getElem? (i := 1993) (by decide +kernel), List.mem_of_getElem? (i := 195) (by decide +kernel), List.mem_of_getElem? (i := 1991) (by decide +kernel), List.mem_of_getElem? (i := 1992) (by decide +kernel), ⟨by decide +kernel, by decide +kernel, by decide +kernel⟩, Or.inl (List.mem_of_getElem? (i := 1990) (by decide +kernel))⟩
theorem kL_91 : LkV RL 91 yX11_trial cX11_trial 11 (some .int) 8 := ⟨List.mem_of_getElem? (i := 1078) (by decide +kernel), List.mem_of_getElem? (i := 178) (by decide +kernel), List.mem_of_getElem? (i := 1076) (by decide +kernel), List.mem_of_getElem? (i := 1077) (by decide +kernel), ⟨by decide +kernel, by decide +kernel, by decide +kernel⟩, Or.inl (List.mem_of_getElem? (i := 1075) (by decide +kernel))⟩
theorem kL_95 : LkV RL 95 yX12_trial cX12_trial 9 (some .int) 8 := ⟨List.mem_of_getElem? (i := 2037) (by decide +kernel), List.mem_of_getElem? (i := 195) (by decide +kernel), List.mem_of_getElem? (i := 2035) (by decide +kernel), List.mem_of_getElem? (i := 2036) (by decide +kernel), ⟨by decide +kernel, by decide +kernel, by decide +kernel⟩, Or.inl (List.mem_of_getElem? (i := 2034) (by decide +kernel))⟩
theorem kL_96 : LkV RL 96 yX11_run cX11_run 6 (some .int) 2 := ⟨List.mem_of_getElem? (i := 1094) (by decide +kernel), List.mem_of_getElem? (i := 178) (by decide +kernel), List.mem_of_getElem? (i := 1092) (by decide +kernel), List.mem_of_getElem? (i := 1093) (by decide +kernel), ⟨by decide +kernel, by decide +kernel, by decide +kernel⟩, Or.inl (List.mem_of_getElem? (i := 1091) (by decide +kernel))⟩
theorem kL_99 : LkV RL 99 yX12_run cX12_run 6 (some .int) 2 := ⟨List.mem_of_getElem? (i := 1775) (by decide +kernel), List.mem_of_getElem? (i := 195) (by decide +kernel), List.mem_of_getElem? (i := 1773) (by decide +kernel), List.mem_of_getElem? (i := 1774) (by decide +kernel), ⟨by decide +kernel, by decide +kernel, by decide +kernel⟩, Or.inl (List.mem_of_getElem? (i := 1772) (by decide +kernel))⟩
theorem kL_100 : LkV RL 100 yX11_moved cX11_moved 7 (some .boolean) 3 := ⟨List.mem_of_getElem? (i := 1109) (by decide +kernel), List.mem_of_getElem? (i := 178) (by decide +kernel), List.mem_of_getElem? (i := 1107) (by decide +kernel), List.mem_of_getElem? (i := 1108) (by decide +kernel), ⟨by decide +kernel, by decide +kernel, by decide +kernel⟩, Or.inl (List.mem_of_getElem? (i := 1106) (by decide +kernel))⟩
theorem kL_104 : LkV RL 104 yX12_moved cX12_moved 6 (some .boolean) 3 := ⟨List.mem_of_getElem? (i := 1997) (by decide +kernel), List.mem_of_getElem? (i := 195) (by decide +kernel), List.mem_of_getElem? (i := 1995) (by decide +kernel), List.mem_of_getElem? (i := 1996) (by decide +kernel), ⟨by decide +kernel, by decide +kernel, by decide +kernel⟩, Or.inl (List.mem_of_getElem? (i := 1994) (by decide +kernel))⟩
theorem kL_105 : LkV RL 105 yX11_voice cX11_voice 4 (some .boolean) 2 := ⟨List.mem_of_getElem? (i := 1122) (by decide +kernel), List.mem_of_getElem? (i := 178) (by decide +kernel), List.mem_of_getElem? (i := 1120) (by decide +kernel), List.mem_of_getElem? (i := 1121) (by decide +kernel), ⟨by decide +kernel, by decide +kernel, by decide +kernel⟩, Or.inl (List.mem_of_getElem? (i := 1119) (by decide +kernel))⟩
theorem kL_109 : LkV RL 109 yX12_voice cX12_voice 3 (some .boolean) 2 := ⟨List.mem_of_getElem? (i := 2005) (by decide +kernel), List.mem_of_getElem? (i := 195) (by decide +kernel), List.mem_of_getElem? (i := 2003) (by decide +kernel), List.mem_of_getElem? (i := 2004) (by decide +kernel), ⟨by decide +kernel, by decide +kernel, by decide +kernel⟩, Or.inl (List.mem_of_getElem? (i := 2002) (by decide +kernel))⟩
theorem kL_110 : LkV RL 110 yX11_undo cX11_undo 1 (some .int) 0 := ⟨List.mem_of_getElem? (i := 1126) (by decide +kernel), List.mem_of_getElem? (i := 178) (by decide +kernel), List.mem_of_getElem? (i := 1124) (by decide +kernel), List.mem_of_getElem? (i := 1125) (by decide +kernel), ⟨by decide +kernel, by decide +kernel, by decide +kernel⟩, Or.inl (List.mem_of_getElem? (i := 1123) (by decide +kernel))⟩
theorem kL_113 : LkV RL 113 yX12_undo cX12_undo 1 (some .int) 0 := ⟨List.mem_of_getElem? (i := 2046) (by decide +kernel), List.mem_of_getElem? (i := 195) (by decide +kernel), List.mem_of_getElem? (i := 2044) (by decide +kernel), List.mem_of_getElem? (i := 2045) (by decide +kernel), ⟨by decide +kernel, by decide +kernel, by decide +kernel⟩, Or.inl (List.mem_of_getElem? (i := 2043) (by decide +kernel))⟩
theorem kL_114 : LkV RL 114 yX11_tried cX11_tried 4 (some .int) 2 := ⟨List.mem_of_getElem? (i := 1130) (by decide +kernel), List.mem_of_getElem? (i := 178) (by decide +kernel), List.mem_of_getElem? (i := 1128) (by decide +kernel), List.mem_of_getElem? (i := 1129) (by decide +kernel), ⟨by decide +kernel, by decide +kernel, by decide +kernel⟩, Or.inl (List.mem_of_getElem? (i := 1127) (by decide +kernel))⟩
theorem kL_117 : LkV RL 117 yX12_tried cX12_tried 3 (some .int) 2 := ⟨List.mem_of_getElem? (i := 2050) (by decide +kernel), List.mem_of_getElem? (i := 195) (by decide +kernel), List.mem_of_getElem? (i := 2048) (by decide +kernel), List.mem_of_getElem? (i := 2049) (by decide +kernel), ⟨by decide +kernel, by decide +kernel, by decide +kernel⟩, Or.inl (List.mem_of_getElem? (i := 2047) (by decide +kernel))⟩
theorem kL_118 : LkV RL 118 yX11_count cX11_count 7 (some .int) 3 := ⟨List.mem_of_getElem? (i := 1138) (by decide +kernel), List.mem_of_getElem? (i := 178) (by decide +kernel), List.mem_of_getElem? (i := 1136) (by decide +kernel), List.mem_of_getElem? (i := 1137) (by decide +kernel), ⟨by decide +kernel, by decide +kernel, by decide +kernel⟩, Or.inl (List.mem_of_getElem? (i := 1135) (by decide +kernel))⟩
theorem kL_122 : LkV RL 122 yX12_count cX12_count 6 (some .int) 3 := ⟨List.mem_of_getElem? (i := 2054) (by decide +kernel), List.mem_of_getElem? (i := 195) (by decide +kernel), List.mem_of_getElem? (i := 2052) (by decide +kernel), List.mem_of_getElem? (i := 2053) (by decide +kernel), ⟨by decide +kernel, by decide +kernel, by decide +kernel⟩, Or.inl (List.mem_of_getElem? (i := 2051) (by decide +kernel))⟩
theorem kL_123 : LkV RL 123 yX11_chance cX11_chance 2 (some .long) 1 := ⟨List.mem_of_getElem? (i := 1162) (by decide +kernel), List.mem_of_getElem? (i := 178) (by decide +kernel), List.mem_of_getElem? (i := 1160) (by decide +kernel), List.mem_of_getElem? (i := 1161) (by decide +kernel), ⟨by decide +kernel, by decide +kernel, by decide +kernel⟩, Or.inl (List.mem_of_getElem? (i := 1159) (by decide +kernel))⟩
theorem kL_127 : LkV RL 127 yX12_chance cX12_chance 2 (some .long) 1 := ⟨List.mem_of_getElem? (i := 2070) (by decide +kernel), List.mem_of_getElem? (i := 195) (by decide +kernel), List.mem_of_getElem? (i := 2068) (by decide +kernel), List.mem_of_getElem? (i := 2069) (by decide +kernel), ⟨by decide +kernel, by decide +kernel, by decide +kernel⟩, Or.inl (List.mem_of_getElem? (i := 2067) (by decide +kernel))⟩
theorem kL_128 : LkV RL 128 yX11_honest cX11_honest 2 (some .long) 1 := ⟨List.mem_of_getElem? (i := 1177) (by decide +kernel), List.mem_of_getElem? (i := 178) (by decide +kernel), List.mem_of_getElem? (i := 1175) (by decide +kernel), List.mem_of_getElem? (i := 1176) (by decide +kernel), ⟨by decide +kernel, by decide +kernel, by decide +kernel⟩, Or.inl (List.mem_of_getElem? (i := 1174) (by decide +kernel))⟩
theorem kL_131 : LkV RL 131 yX12_honest cX12_honest 2 (some .long) 1 := ⟨List.mem_of_getElem? (i := 2080) (by decide +kernel), List.mem_of_getElem? (i := 195) (by decide +kernel), List.mem_of_getElem? (i := 2078) (by decide +kernel), List.mem_of_getElem? (i := 2079) (by decide +kernel), ⟨by decide +kernel, by decide +kernel, by decide +kernel⟩, Or.inl (List.mem_of_getElem? (i := 2077) (by decide +kernel))⟩
theorem kCL_132 : Cond.constantLong RL 132 (4294967295 : Int64) ∈ lw_tbl := List.mem_of_getElem? (i := 2191) (by decide +kernel)
theorem kL_134 : LkV RL 134 yX11_needed cX11_needed 7 (some .int) 2 := ⟨List.mem_of_getElem? (i := 1181) (by decide +kernel), List.mem_of_getElem? (i := 178) (by decide +kernel), List.mem_of_getElem? (i := 1179) (by decide +kernel), List.mem_of_getElem? (i := 1180) (by decide +kernel), ⟨by decide +kernel, by decide +kernel, by decide +kernel⟩, Or.inl (List.mem_of_getElem? (i := 1178) (by decide +kernel))⟩
theorem kL_138 : LkV RL 138 yX12_needed cX12_needed 7 (some .int) 2 := ⟨List.mem_of_getElem? (i := 2084) (by decide +kernel), List.mem_of_getElem? (i := 195) (by decide +kernel), List.mem_of_getElem? (i := 2082) (by decide +kernel), List.mem_of_getElem? (i := 2083) (by decide +kernel), ⟨by decide +kernel, by decide +kernel, by decide +kernel⟩, Or.inl (List.mem_of_getElem? (i := 2081) (by decide +kernel))⟩
theorem kL_139 : LkV RL 139 yX11_kind cX11_kind 5 (some .int) 2 := ⟨List.mem_of_getElem? (i := 1185) (by decide +kernel), List.mem_of_getElem? (i := 178) (by decide +kernel), List.mem_of_getElem? (i := 1183) (by decide +kernel), List.mem_of_getElem? (i := 1184) (by decide +kernel), ⟨by decide +kernel, by decide +kernel, by decide +kernel⟩, Or.inl (List.mem_of_getElem? (i := 1182) (by decide +kernel))⟩
theorem kL_142 : LkV RL 142 yX12_kind cX12_kind 3 (some .int) 2 := ⟨List.mem_of_getElem? (i := 2009) (by decide +kernel), List.mem_of_getElem? (i := 195) (by decide +kernel), List.mem_of_getElem? (i := 2007) (by decide +kernel), List.mem_of_getElem? (i := 2008) (by decide +kernel), ⟨by decide +kernel, by decide +kernel, by decide +kernel⟩, Or.inl (List.mem_of_getElem? (i := 2006) (by decide +kernel))⟩
theorem kL_143 : LkV RL 143 yX11_kinds cX11_kinds 6 (some .int) 2 := ⟨List.mem_of_getElem? (i := 1201) (by decide +kernel), List.mem_of_getElem? (i := 178) (by decide +kernel), List.mem_of_getElem? (i := 1199) (by decide +kernel), List.mem_of_getElem? (i := 1200) (by decide +kernel), ⟨by decide +kernel, by decide +kernel, by decide +kernel⟩, Or.inl (List.mem_of_getElem? (i := 1198) (by decide +kernel))⟩
theorem kL_146 : LkV RL 146 yX12_kinds cX12_kinds 5 (some .int) 2 := ⟨List.mem_of_getElem? (i := 2033) (by decide +kernel), List.mem_of_getElem? (i := 195) (by decide +kernel), List.mem_of_getElem? (i := 2031) (by decide +kernel), List.mem_of_getElem? (i := 2032) (by decide +kernel), ⟨by decide +kernel, by decide +kernel, by decide +kernel⟩, Or.inl (List.mem_of_getElem? (i := 2030) (by decide +kernel))⟩
theorem kL_147 : LkV RL 147 yX11_weight cX11_weight 3 (some .long) 1 := ⟨List.mem_of_getElem? (i := 1205) (by decide +kernel), List.mem_of_getElem? (i := 178) (by decide +kernel), List.mem_of_getElem? (i := 1203) (by decide +kernel), List.mem_of_getElem? (i := 1204) (by decide +kernel), ⟨by decide +kernel, by decide +kernel, by decide +kernel⟩, Or.inl (List.mem_of_getElem? (i := 1202) (by decide +kernel))⟩
theorem kL_150 : LkV RL 150 yX12_weight cX12_weight 2 (some .long) 1 := ⟨List.mem_of_getElem? (i := 2088) (by decide +kernel), List.mem_of_getElem? (i := 195) (by decide +kernel), List.mem_of_getElem? (i := 2086) (by decide +kernel), List.mem_of_getElem? (i := 2087) (by decide +kernel), ⟨by decide +kernel, by decide +kernel, by decide +kernel⟩, Or.inl (List.mem_of_getElem? (i := 2085) (by decide +kernel))⟩
theorem kL_151 : LkV RL 151 yX11_thrown cX11_thrown 4 (some .int) 1 := ⟨List.mem_of_getElem? (i := 1218) (by decide +kernel), List.mem_of_getElem? (i := 178) (by decide +kernel), List.mem_of_getElem? (i := 1216) (by decide +kernel), List.mem_of_getElem? (i := 1217) (by decide +kernel), ⟨by decide +kernel, by decide +kernel, by decide +kernel⟩, Or.inl (List.mem_of_getElem? (i := 1215) (by decide +kernel))⟩
theorem kL_154 : LkV RL 154 yX12_thrown cX12_thrown 3 (some .int) 1 := ⟨List.mem_of_getElem? (i := 2100) (by decide +kernel), List.mem_of_getElem? (i := 195) (by decide +kernel), List.mem_of_getElem? (i := 2098) (by decide +kernel), List.mem_of_getElem? (i := 2099) (by decide +kernel), ⟨by decide +kernel, by decide +kernel, by decide +kernel⟩, Or.inl (List.mem_of_getElem? (i := 2097) (by decide +kernel))⟩
theorem kL_155 : LkV RL 155 yX11_likely cX11_likely 7 (some .int) 0 := ⟨List.mem_of_getElem? (i := 1222) (by decide +kernel), List.mem_of_getElem? (i := 178) (by decide +kernel), List.mem_of_getElem? (i := 1220) (by decide +kernel), List.mem_of_getElem? (i := 1221) (by decide +kernel), ⟨by decide +kernel, by decide +kernel, by decide +kernel⟩, Or.inl (List.mem_of_getElem? (i := 1219) (by decide +kernel))⟩
theorem kL_158 : LkV RL 158 yX12_likely cX12_likely 7 (some .int) 0 := ⟨List.mem_of_getElem? (i := 2104) (by decide +kernel), List.mem_of_getElem? (i := 195) (by decide +kernel), List.mem_of_getElem? (i := 2102) (by decide +kernel), List.mem_of_getElem? (i := 2103) (by decide +kernel), ⟨by decide +kernel, by decide +kernel, by decide +kernel⟩, Or.inl (List.mem_of_getElem? (i := 2101) (by decide +kernel))⟩
theorem kL_159 : LkV RL 159 yX11_lies cX11_lies 6 (some .int) 1 := ⟨List.mem_of_getElem? (i := 1226) (by decide +kernel), List.mem_of_getElem? (i := 178) (by decide +kernel), List.mem_of_getElem? (i := 1224) (by decide +kernel), List.mem_of_getElem? (i := 1225) (by decide +kernel), ⟨by decide +kernel, by decide +kernel, by decide +kernel⟩, Or.inl (List.mem_of_getElem? (i := 1223) (by decide +kernel))⟩
theorem kL_162 : LkV RL 162 yX12_lies cX12_lies 4 (some .int) 1 := ⟨List.mem_of_getElem? (i := 2108) (by decide +kernel), List.mem_of_getElem? (i := 195) (by decide +kernel), List.mem_of_getElem? (i := 2106) (by decide +kernel), List.mem_of_getElem? (i := 2107) (by decide +kernel), ⟨by decide +kernel, by decide +kernel, by decide +kernel⟩, Or.inl (List.mem_of_getElem? (i := 2105) (by decide +kernel))⟩
theorem kL_163 : LkV RL 163 yX11_span cX11_span 9 (some .int) 2 := ⟨List.mem_of_getElem? (i := 1230) (by decide +kernel), List.mem_of_getElem? (i := 178) (by decide +kernel), List.mem_of_getElem? (i := 1228) (by decide +kernel), List.mem_of_getElem? (i := 1229) (by decide +kernel), ⟨by decide +kernel, by decide +kernel, by decide +kernel⟩, Or.inl (List.mem_of_getElem? (i := 1227) (by decide +kernel))⟩
theorem kL_167 : LkV RL 167 yX12_span cX12_span 7 (some .int) 2 := ⟨List.mem_of_getElem? (i := 2112) (by decide +kernel), List.mem_of_getElem? (i := 195) (by decide +kernel), List.mem_of_getElem? (i := 2110) (by decide +kernel), List.mem_of_getElem? (i := 2111) (by decide +kernel), ⟨by decide +kernel, by decide +kernel, by decide +kernel⟩, Or.inl (List.mem_of_getElem? (i := 2109) (by decide +kernel))⟩
theorem kL_168 : LkV RL 168 yX11_bound cX11_bound 4 (some .int) 0 := ⟨List.mem_of_getElem? (i := 1234) (by decide +kernel), List.mem_of_getElem? (i := 178) (by decide +kernel), List.mem_of_getElem? (i := 1232) (by decide +kernel), List.mem_of_getElem? (i := 1233) (by decide +kernel), ⟨by decide +kernel, by decide +kernel, by decide +kernel⟩, Or.inl (List.mem_of_getElem? (i := 1231) (by decide +kernel))⟩
theorem kL_171 : LkV RL 171 yX12_bound cX12_bound 4 (some .int) 0 := ⟨List.mem_of_getElem? (i := 2116) (by decide +kernel), List.mem_of_getElem? (i := 195) (by decide +kernel), List.mem_of_getElem? (i := 2114) (by decide +kernel), List.mem_of_getElem? (i := 2115) (by decide +kernel), ⟨by decide +kernel, by decide +kernel, by decide +kernel⟩, Or.inl (List.mem_of_getElem? (i := 2113) (by decide +kernel))⟩
theorem kL_172 : LkV RL 172 yX11_left cX11_left 6 (some .int) 0 := ⟨List.mem_of_getElem? (i := 1238) (by decide +kernel), List.mem_of_getElem? (i := 178) (by decide +kernel), List.mem_of_getElem? (i := 1236) (by decide +kernel), List.mem_of_getElem? (i := 1237) (by decide +kernel), ⟨by decide +kernel, by decide +kernel, by decide +kernel⟩, Or.inl (List.mem_of_getElem? (i := 1235) (by decide +kernel))⟩
theorem kL_175 : LkV RL 175 yX12_left cX12_left 4 (some .int) 0 := ⟨List.mem_of_getElem? (i := 2120) (by decide +kernel), List.mem_of_getElem? (i := 195) (by decide +kernel), List.mem_of_getElem? (i := 2118) (by decide +kernel), List.mem_of_getElem? (i := 2119) (by decide +kernel), ⟨by decide +kernel, by decide +kernel, by decide +kernel⟩, Or.inl (List.mem_of_getElem? (i := 2117) (by decide +kernel))⟩
theorem kL_176 : LkV RL 176 yX11_fewest cX11_fewest 9 (some .int) 2 := ⟨List.mem_of_getElem? (i := 1243) (by decide +kernel), List.mem_of_getElem? (i := 178) (by decide +kernel), List.mem_of_getElem? (i := 1241) (by decide +kernel), List.mem_of_getElem? (i := 1242) (by decide +kernel), ⟨by decide +kernel, by decide +kernel, by decide +kernel⟩, Or.inl (List.mem_of_getElem? (i := 1240) (by decide +kernel))⟩
theorem kL_179 : LkV RL 179 yX12_fewest cX12_fewest 6 (some .int) 2 := ⟨List.mem_of_getElem? (i := 2125) (by decide +kernel), List.mem_of_getElem? (i := 195) (by decide +kernel), List.mem_of_getElem? (i := 2123) (by decide +kernel), List.mem_of_getElem? (i := 2124) (by decide +kernel), ⟨by decide +kernel, by decide +kernel, by decide +kernel⟩, Or.inl (List.mem_of_getElem? (i := 2122) (by decide +kernel))⟩
theorem kL_180 : LkV RL 180 yX11_parted cX11_parted 9 (some .int) 6 := ⟨List.mem_of_getElem? (i := 1265) (by decide +kernel), List.mem_of_getElem? (i := 178) (by decide +kernel), List.mem_of_getElem? (i := 1263) (by decide +kernel), List.mem_of_getElem? (i := 1264) (by decide +kernel), ⟨by decide +kernel, by decide +kernel, by decide +kernel⟩, Or.inl (List.mem_of_getElem? (i := 1262) (by decide +kernel))⟩
theorem kL_183 : LkV RL 183 yX12_parted cX12_parted 7 (some .int) 6 := ⟨List.mem_of_getElem? (i := 2140) (by decide +kernel), List.mem_of_getElem? (i := 195) (by decide +kernel), List.mem_of_getElem? (i := 2138) (by decide +kernel), List.mem_of_getElem? (i := 2139) (by decide +kernel), ⟨by decide +kernel, by decide +kernel, by decide +kernel⟩, Or.inl (List.mem_of_getElem? (i := 2137) (by decide +kernel))⟩
theorem kL_184 : LkV RL 184 yX11_next cX11_next 13 (some .int) 4 := ⟨List.mem_of_getElem? (i := 1273) (by decide +kernel), List.mem_of_getElem? (i := 178) (by decide +kernel), List.mem_of_getElem? (i := 1271) (by decide +kernel), List.mem_of_getElem? (i := 1272) (by decide +kernel), ⟨by decide +kernel, by decide +kernel, by decide +kernel⟩, Or.inl (List.mem_of_getElem? (i := 1270) (by decide +kernel))⟩
theorem kL_188 : LkV RL 188 yX12_next cX12_next 9 (some .int) 4 := ⟨List.mem_of_getElem? (i := 2148) (by decide +kernel), List.mem_of_getElem? (i := 195) (by decide +kernel), List.mem_of_getElem? (i := 2146) (by decide +kernel), List.mem_of_getElem? (i := 2147) (by decide +kernel), ⟨by decide +kernel, by decide +kernel, by decide +kernel⟩, Or.inl (List.mem_of_getElem? (i := 2145) (by decide +kernel))⟩
theorem kL_189 : LkV RL 189 yX11_chair cX11_chair 4 (some .int) 3 := ⟨List.mem_of_getElem? (i := 1277) (by decide +kernel), List.mem_of_getElem? (i := 178) (by decide +kernel), List.mem_of_getElem? (i := 1275) (by decide +kernel), List.mem_of_getElem? (i := 1276) (by decide +kernel), ⟨by decide +kernel, by decide +kernel, by decide +kernel⟩, Or.inl (List.mem_of_getElem? (i := 1274) (by decide +kernel))⟩
theorem kL_192 : LkV RL 192 yX12_chair cX12_chair 4 (some .int) 3 := ⟨List.mem_of_getElem? (i := 2153) (by decide +kernel), List.mem_of_getElem? (i := 195) (by decide +kernel), List.mem_of_getElem? (i := 2151) (by decide +kernel), List.mem_of_getElem? (i := 2152) (by decide +kernel), ⟨by decide +kernel, by decide +kernel, by decide +kernel⟩, Or.inl (List.mem_of_getElem? (i := 2150) (by decide +kernel))⟩
theorem kL_193 : LkV RL 193 yX11_walks cX11_walks 2 (some .int) 1 := ⟨List.mem_of_getElem? (i := 1285) (by decide +kernel), List.mem_of_getElem? (i := 178) (by decide +kernel), List.mem_of_getElem? (i := 1283) (by decide +kernel), List.mem_of_getElem? (i := 1284) (by decide +kernel), ⟨by decide +kernel, by decide +kernel, by decide +kernel⟩, Or.inl (List.mem_of_getElem? (i := 1282) (by decide +kernel))⟩
theorem kL_196 : LkV RL 196 yX12_walks cX12_walks 2 (some .int) 1 := ⟨List.mem_of_getElem? (i := 2158) (by decide +kernel), List.mem_of_getElem? (i := 195) (by decide +kernel), List.mem_of_getElem? (i := 2156) (by decide +kernel), List.mem_of_getElem? (i := 2157) (by decide +kernel), ⟨by decide +kernel, by decide +kernel, by decide +kernel⟩, Or.inl (List.mem_of_getElem? (i := 2155) (by decide +kernel))⟩
theorem kL_197 : LkV RL 197 yX11_walk cX11_walk 7 (some .long) 2 := ⟨List.mem_of_getElem? (i := 1302) (by decide +kernel), List.mem_of_getElem? (i := 178) (by decide +kernel), List.mem_of_getElem? (i := 1300) (by decide +kernel), List.mem_of_getElem? (i := 1301) (by decide +kernel), ⟨by decide +kernel, by decide +kernel, by decide +kernel⟩, Or.inl (List.mem_of_getElem? (i := 1299) (by decide +kernel))⟩
theorem kL_201 : LkV RL 201 yX12_walk cX12_walk 9 (some .long) 2 := ⟨List.mem_of_getElem? (i := 2166) (by decide +kernel), List.mem_of_getElem? (i := 195) (by decide +kernel), List.mem_of_getElem? (i := 2164) (by decide +kernel), List.mem_of_getElem? (i := 2165) (by decide +kernel), ⟨by decide +kernel, by decide +kernel, by decide +kernel⟩, Or.inl (List.mem_of_getElem? (i := 2163) (by decide +kernel))⟩
theorem kL_202 : LkV RL 202 yX11_image cX11_image 3 (some .int) 0 := ⟨List.mem_of_getElem? (i := 1310) (by decide +kernel), List.mem_of_getElem? (i := 178) (by decide +kernel), List.mem_of_getElem? (i := 1308) (by decide +kernel), List.mem_of_getElem? (i := 1309) (by decide +kernel), ⟨by decide +kernel, by decide +kernel, by decide +kernel⟩, Or.inl (List.mem_of_getElem? (i := 1307) (by decide +kernel))⟩
theorem kL_205 : LkV RL 205 yX12_image cX12_image 2 (some .int) 0 := ⟨List.mem_of_getElem? (i := 2171) (by decide +kernel), List.mem_of_getElem? (i := 195) (by decide +kernel), List.mem_of_getElem? (i := 2169) (by decide +kernel), List.mem_of_getElem? (i := 2170) (by decide +kernel), ⟨by decide +kernel, by decide +kernel, by decide +kernel⟩, Or.inl (List.mem_of_getElem? (i := 2168) (by decide +kernel))⟩
theorem kL_206 : LkV RL 206 yX11_octet cX11_octet 2 (some .int) 1 := ⟨List.mem_of_getElem? (i := 1325) (by decide +kernel), List.mem_of_getElem? (i := 178) (by decide +kernel), List.mem_of_getElem? (i := 1323) (by decide +kernel), List.mem_of_getElem? (i := 1324) (by decide +kernel), ⟨by decide +kernel, by decide +kernel, by decide +kernel⟩, Or.inl (List.mem_of_getElem? (i := 1322) (by decide +kernel))⟩
theorem kL_209 : LkV RL 209 yX12_octet cX12_octet 2 (some .int) 1 := ⟨List.mem_of_getElem? (i := 2182) (by decide +kernel), List.mem_of_getElem? (i := 195) (by decide +kernel), List.mem_of_getElem? (i := 2180) (by decide +kernel), List.mem_of_getElem? (i := 2181) (by decide +kernel), ⟨by decide +kernel, by decide +kernel, by decide +kernel⟩, Or.inl (List.mem_of_getElem? (i := 2179) (by decide +kernel))⟩
theorem kL_210 : LkV RL 210 yX11_on cX11_on 3 (some .boolean) 0 := ⟨List.mem_of_getElem? (i := 1329) (by decide +kernel), List.mem_of_getElem? (i := 178) (by decide +kernel), List.mem_of_getElem? (i := 1327) (by decide +kernel), List.mem_of_getElem? (i := 1328) (by decide +kernel), ⟨by decide +kernel, by decide +kernel, by decide +kernel⟩, Or.inl (List.mem_of_getElem? (i := 1326) (by decide +kernel))⟩
theorem kL_214 : LkV RL 214 yX12_on cX12_on 4 (some .boolean) 0 := ⟨List.mem_of_getElem? (i := 2186) (by decide +kernel), List.mem_of_getElem? (i := 195) (by decide +kernel), List.mem_of_getElem? (i := 2184) (by decide +kernel), List.mem_of_getElem? (i := 2185) (by decide +kernel), ⟨by decide +kernel, by decide +kernel, by decide +kernel⟩, Or.inl (List.mem_of_getElem? (i := 2183) (by decide +kernel))⟩
