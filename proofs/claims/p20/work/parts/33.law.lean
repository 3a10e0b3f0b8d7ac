theorem lz_co_X9_feed : Cond.code yX9_feed cX9_feed 6 (some .int) ∈ lw_good := sv_mem 428 (by decide +kernel) rfl
theorem lz_ml_13 : Cond.methodLink RL 13 yX9_feed ∈ lw_good := sv_mem 425 (by decide +kernel) rfl
theorem lz_im_X9_feed : Cond.instanceMethod yX9_feed ∈ lw_good := sv_mem 426 (by decide +kernel) rfl
theorem lz_se_X9_feed : Cond.selects RX9 yX9_feed yX9_feed ∈ lw_good := sv_mem 427 (by decide +kernel) rfl
theorem lz_in_X9 : Cond.initialized RX9 ∈ lw_good := sv_mem 72 (by decide +kernel) rfl
theorem lz_co_X11_feed : Cond.code yX11_feed cX11_feed 6 (some .int) ∈ lw_good := sv_mem 1249 (by decide +kernel) rfl
theorem lz_ml_17 : Cond.methodLink RL 17 yX11_feed ∈ lw_good := sv_mem 1246 (by decide +kernel) rfl
theorem lz_im_X11_feed : Cond.instanceMethod yX11_feed ∈ lw_good := sv_mem 1247 (by decide +kernel) rfl
theorem lz_se_X11_feed : Cond.selects RX11 yX11_feed yX11_feed ∈ lw_good := sv_mem 1248 (by decide +kernel) rfl
theorem lz_in_X11 : Cond.initialized RX11 ∈ lw_good := sv_mem 82 (by decide +kernel) rfl
theorem lz_co_X9_end : Cond.code yX9_end cX9_end 2 (some .int) ∈ lw_good := sv_mem 436 (by decide +kernel) rfl
theorem lz_ml_18 : Cond.methodLink RL 18 yX9_end ∈ lw_good := sv_mem 433 (by decide +kernel) rfl
theorem lz_im_X9_end : Cond.instanceMethod yX9_end ∈ lw_good := sv_mem 434 (by decide +kernel) rfl
theorem lz_se_X9_end : Cond.selects RX9 yX9_end yX9_end ∈ lw_good := sv_mem 435 (by decide +kernel) rfl
theorem lz_co_X11_end : Cond.code yX11_end cX11_end 2 (some .int) ∈ lw_good := sv_mem 1257 (by decide +kernel) rfl
theorem lz_ml_22 : Cond.methodLink RL 22 yX11_end ∈ lw_good := sv_mem 1254 (by decide +kernel) rfl
theorem lz_im_X11_end : Cond.instanceMethod yX11_end ∈ lw_good := sv_mem 1255 (by decide +kernel) rfl
theorem lz_se_X11_end : Cond.selects RX11 yX11_end yX11_end ∈ lw_good := sv_mem 1256 (by decide +kernel) rfl
theorem lz_co_X9_calendar : Cond.code yX9_calendar cX9_calendar 3 (some .int) ∈ lw_good := sv_mem 440 (by decide +kernel) rfl
theorem lz_ml_23 : Cond.methodLink RL 23 yX9_calendar ∈ lw_good := sv_mem 437 (by decide +kernel) rfl
theorem lz_im_X9_calendar : Cond.instanceMethod yX9_calendar ∈ lw_good := sv_mem 438 (by decide +kernel) rfl
theorem lz_se_X9_calendar : Cond.selects RX9 yX9_calendar yX9_calendar ∈ lw_good := sv_mem 439 (by decide +kernel) rfl
theorem lz_co_X11_calendar : Cond.codeWith yX11_calendar cX11_calendar 3 (some .int) [(33, 37, 40, 95)] ∈ lw_good := sv_mem 1261 (by decide +kernel) rfl
theorem lz_ml_26 : Cond.methodLink RL 26 yX11_calendar ∈ lw_good := sv_mem 1258 (by decide +kernel) rfl
theorem lz_im_X11_calendar : Cond.instanceMethod yX11_calendar ∈ lw_good := sv_mem 1259 (by decide +kernel) rfl
theorem lz_se_X11_calendar : Cond.selects RX11 yX11_calendar yX11_calendar ∈ lw_good := sv_mem 1260 (by decide +kernel) rfl
theorem lz_co_X9_fault : Cond.code yX9_fault cX9_fault 2 (some .int) ∈ lw_good := sv_mem 625 (by decide +kernel) rfl
theorem lz_ml_27 : Cond.methodLink RL 27 yX9_fault ∈ lw_good := sv_mem 622 (by decide +kernel) rfl
theorem lz_im_X9_fault : Cond.instanceMethod yX9_fault ∈ lw_good := sv_mem 623 (by decide +kernel) rfl
theorem lz_se_X9_fault : Cond.selects RX9 yX9_fault yX9_fault ∈ lw_good := sv_mem 624 (by decide +kernel) rfl
theorem lz_co_X11_fault : Cond.code yX11_fault cX11_fault 2 (some .int) ∈ lw_good := sv_mem 1351 (by decide +kernel) rfl
theorem lz_ml_30 : Cond.methodLink RL 30 yX11_fault ∈ lw_good := sv_mem 1348 (by decide +kernel) rfl
theorem lz_im_X11_fault : Cond.instanceMethod yX11_fault ∈ lw_good := sv_mem 1349 (by decide +kernel) rfl
theorem lz_se_X11_fault : Cond.selects RX11 yX11_fault yX11_fault ∈ lw_good := sv_mem 1350 (by decide +kernel) rfl
theorem lz_co_X9_feast : Cond.code yX9_feast cX9_feast 4 (some .int) ∈ lw_good := sv_mem 629 (by decide +kernel) rfl
theorem lz_ml_31 : Cond.methodLink RL 31 yX9_feast ∈ lw_good := sv_mem 626 (by decide +kernel) rfl
theorem lz_im_X9_feast : Cond.instanceMethod yX9_feast ∈ lw_good := sv_mem 627 (by decide +kernel) rfl
theorem lz_se_X9_feast : Cond.selects RX9 yX9_feast yX9_feast ∈ lw_good := sv_mem 628 (by decide +kernel) rfl
theorem lz_co_X11_feast : Cond.code yX11_feast cX11_feast 5 (some .int) ∈ lw_good := sv_mem 1355 (by decide +kernel) rfl
theorem lz_ml_35 : Cond.methodLink RL 35 yX11_feast ∈ lw_good := sv_mem 1352 (by decide +kernel) rfl
theorem lz_im_X11_feast : Cond.instanceMethod yX11_feast ∈ lw_good := sv_mem 1353 (by decide +kernel) rfl
theorem lz_se_X11_feast : Cond.selects RX11 yX11_feast yX11_feast ∈ lw_good := sv_mem 1354 (by decide +kernel) rfl
theorem lz_co_X9_easter : Cond.code yX9_easter cX9_easter 2 (some .int) ∈ lw_good := sv_mem 646 (by decide +kernel) rfl
theorem lz_ml_36 : Cond.methodLink RL 36 yX9_easter ∈ lw_good := sv_mem 643 (by decide +kernel) rfl
theorem lz_im_X9_easter : Cond.instanceMethod yX9_easter ∈ lw_good := sv_mem 644 (by decide +kernel) rfl
theorem lz_se_X9_easter : Cond.selects RX9 yX9_easter yX9_easter ∈ lw_good := sv_mem 645 (by decide +kernel) rfl
theorem lz_co_X11_easter : Cond.code yX11_easter cX11_easter 2 (some .int) ∈ lw_good := sv_mem 1002 (by decide +kernel) rfl
theorem lz_ml_39 : Cond.methodLink RL 39 yX11_easter ∈ lw_good := sv_mem 999 (by decide +kernel) rfl
theorem lz_im_X11_easter : Cond.instanceMethod yX11_easter ∈ lw_good := sv_mem 1000 (by decide +kernel) rfl
theorem lz_se_X11_easter : Cond.selects RX11 yX11_easter yX11_easter ∈ lw_good := sv_mem 1001 (by decide +kernel) rfl
theorem lz_co_X9_date : Cond.code yX9_date cX9_date 5 (some .int) ∈ lw_good := sv_mem 670 (by decide +kernel) rfl
theorem lz_ml_40 : Cond.methodLink RL 40 yX9_date ∈ lw_good := sv_mem 667 (by decide +kernel) rfl
theorem lz_im_X9_date : Cond.instanceMethod yX9_date ∈ lw_good := sv_mem 668 (by decide +kernel) rfl
theorem lz_se_X9_date : Cond.selects RX9 yX9_date yX9_date ∈ lw_good := sv_mem 669 (by decide +kernel) rfl
theorem lz_co_X11_date : Cond.code yX11_date cX11_date 6 (some .int) ∈ lw_good := sv_mem 1031 (by decide +kernel) rfl
theorem lz_ml_43 : Cond.methodLink RL 43 yX11_date ∈ lw_good := sv_mem 1028 (by decide +kernel) rfl
theorem lz_im_X11_date : Cond.instanceMethod yX11_date ∈ lw_good := sv_mem 1029 (by decide +kernel) rfl
theorem lz_se_X11_date : Cond.selects RX11 yX11_date yX11_date ∈ lw_good := sv_mem 1030 (by decide +kernel) rfl
theorem lz_co_X9_office : Cond.code yX9_office cX9_office 4 (some .int) ∈ lw_good := sv_mem 686 (by decide +kernel) rfl
theorem lz_ml_44 : Cond.methodLink RL 44 yX9_office ∈ lw_good := sv_mem 683 (by decide +kernel) rfl
theorem lz_im_X9_office : Cond.instanceMethod yX9_office ∈ lw_good := sv_mem 684 (by decide +kernel) rfl
theorem lz_se_X9_office : Cond.selects RX9 yX9_office yX9_office ∈ lw_good := sv_mem 685 (by decide +kernel) rfl
theorem lz_co_X11_office : Cond.code yX11_office cX11_office 4 (some .int) ∈ lw_good := sv_mem 1365 (by decide +kernel) rfl
theorem lz_ml_47 : Cond.methodLink RL 47 yX11_office ∈ lw_good := sv_mem 1362 (by decide +kernel) rfl
theorem lz_im_X11_office : Cond.instanceMethod yX11_office ∈ lw_good := sv_mem 1363 (by decide +kernel) rfl
theorem lz_se_X11_office : Cond.selects RX11 yX11_office yX11_office ∈ lw_good := sv_mem 1364 (by decide +kernel) rfl
theorem lz_co_X9_held : Cond.code yX9_held cX9_held 4 (some .int) ∈ lw_good := sv_mem 750 (by decide +kernel) rfl
theorem lz_ml_48 : Cond.methodLink RL 48 yX9_held ∈ lw_good := sv_mem 747 (by decide +kernel) rfl
theorem lz_im_X9_held : Cond.instanceMethod yX9_held ∈ lw_good := sv_mem 748 (by decide +kernel) rfl
theorem lz_se_X9_held : Cond.selects RX9 yX9_held yX9_held ∈ lw_good := sv_mem 749 (by decide +kernel) rfl
theorem lz_co_X11_held : Cond.code yX11_held cX11_held 4 (some .int) ∈ lw_good := sv_mem 1381 (by decide +kernel) rfl
theorem lz_ml_51 : Cond.methodLink RL 51 yX11_held ∈ lw_good := sv_mem 1378 (by decide +kernel) rfl
theorem lz_im_X11_held : Cond.instanceMethod yX11_held ∈ lw_good := sv_mem 1379 (by decide +kernel) rfl
theorem lz_se_X11_held : Cond.selects RX11 yX11_held yX11_held ∈ lw_good := sv_mem 1380 (by decide +kernel) rfl
theorem lz_co_X9_own : Cond.code yX9_own cX9_own 4 (some .int) ∈ lw_good := sv_mem 754 (by decide +kernel) rfl
theorem lz_ml_52 : Cond.methodLink RL 52 yX9_own ∈ lw_good := sv_mem 751 (by decide +kernel) rfl
theorem lz_im_X9_own : Cond.instanceMethod yX9_own ∈ lw_good := sv_mem 752 (by decide +kernel) rfl
theorem lz_se_X9_own : Cond.selects RX9 yX9_own yX9_own ∈ lw_good := sv_mem 753 (by decide +kernel) rfl
theorem lz_co_X11_own : Cond.code yX11_own cX11_own 4 (some .int) ∈ lw_good := sv_mem 1385 (by decide +kernel) rfl
theorem lz_ml_55 : Cond.methodLink RL 55 yX11_own ∈ lw_good := sv_mem 1382 (by decide +kernel) rfl
theorem lz_im_X11_own : Cond.instanceMethod yX11_own ∈ lw_good := sv_mem 1383 (by decide +kernel) rfl
theorem lz_se_X11_own : Cond.selects RX11 yX11_own yX11_own ∈ lw_good := sv_mem 1384 (by decide +kernel) rfl
theorem lz_co_X9_fast : Cond.code yX9_fast cX9_fast 4 (some .int) ∈ lw_good := sv_mem 759 (by decide +kernel) rfl
theorem lz_ml_56 : Cond.methodLink RL 56 yX9_fast ∈ lw_good := sv_mem 756 (by decide +kernel) rfl
theorem lz_im_X9_fast : Cond.instanceMethod yX9_fast ∈ lw_good := sv_mem 757 (by decide +kernel) rfl
theorem lz_se_X9_fast : Cond.selects RX9 yX9_fast yX9_fast ∈ lw_good := sv_mem 758 (by decide +kernel) rfl
theorem lz_co_X11_fast : Cond.code yX11_fast cX11_fast 6 (some .int) ∈ lw_good := sv_mem 1389 (by decide +kernel) rfl
theorem lz_ml_59 : Cond.methodLink RL 59 yX11_fast ∈ lw_good := sv_mem 1386 (by decide +kernel) rfl
theorem lz_im_X11_fast : Cond.instanceMethod yX11_fast ∈ lw_good := sv_mem 1387 (by decide +kernel) rfl
theorem lz_se_X11_fast : Cond.selects RX11 yX11_fast yX11_fast ∈ lw_good := sv_mem 1388 (by decide +kernel) rfl
theorem lz_co_X9_wax : Cond.code yX9_wax cX9_wax 8 (some .int) ∈ lw_good := sv_mem 779 (by decide +kernel) rfl
theorem lz_ml_60 : Cond.methodLink RL 60 yX9_wax ∈ lw_good := sv_mem 776 (by decide +kernel) rfl
theorem lz_im_X9_wax : Cond.instanceMethod yX9_wax ∈ lw_good := sv_mem 777 (by decide +kernel) rfl
theorem lz_se_X9_wax : Cond.selects RX9 yX9_wax yX9_wax ∈ lw_good := sv_mem 778 (by decide +kernel) rfl
theorem lz_co_X11_wax : Cond.code yX11_wax cX11_wax 7 (some .int) ∈ lw_good := sv_mem 1397 (by decide +kernel) rfl
theorem lz_ml_64 : Cond.methodLink RL 64 yX11_wax ∈ lw_good := sv_mem 1394 (by decide +kernel) rfl
theorem lz_im_X11_wax : Cond.instanceMethod yX11_wax ∈ lw_good := sv_mem 1395 (by decide +kernel) rfl
theorem lz_se_X11_wax : Cond.selects RX11 yX11_wax yX11_wax ∈ lw_good := sv_mem 1396 (by decide +kernel) rfl
theorem lz_co_X9_next : Cond.code yX9_next cX9_next 9 (some .int) ∈ lw_good := sv_mem 802 (by decide +kernel) rfl
theorem lz_ml_65 : Cond.methodLink RL 65 yX9_next ∈ lw_good := sv_mem 799 (by decide +kernel) rfl
theorem lz_im_X9_next : Cond.instanceMethod yX9_next ∈ lw_good := sv_mem 800 (by decide +kernel) rfl
theorem lz_se_X9_next : Cond.selects RX9 yX9_next yX9_next ∈ lw_good := sv_mem 801 (by decide +kernel) rfl
theorem lz_co_X11_next : Cond.code yX11_next cX11_next 7 (some .int) ∈ lw_good := sv_mem 1405 (by decide +kernel) rfl
theorem lz_ml_68 : Cond.methodLink RL 68 yX11_next ∈ lw_good := sv_mem 1402 (by decide +kernel) rfl
theorem lz_im_X11_next : Cond.instanceMethod yX11_next ∈ lw_good := sv_mem 1403 (by decide +kernel) rfl
theorem lz_se_X11_next : Cond.selects RX11 yX11_next yX11_next ∈ lw_good := sv_mem 1404 (by decide +kernel) rfl
theorem lz_co_X9_unlike : Cond.code yX9_unlike cX9_unlike 7 (some .int) ∈ lw_good := sv_mem 814 (by decide +kernel) rfl
theorem lz_ml_69 : Cond.methodLink RL 69 yX9_unlike ∈ lw_good := sv_mem 811 (by decide +kernel) rfl
theorem lz_im_X9_unlike : Cond.instanceMethod yX9_unlike ∈ lw_good := sv_mem 812 (by decide +kernel) rfl
theorem lz_se_X9_unlike : Cond.selects RX9 yX9_unlike yX9_unlike ∈ lw_good := sv_mem 813 (by decide +kernel) rfl
theorem lz_co_X11_unlike : Cond.code yX11_unlike cX11_unlike 6 (some .int) ∈ lw_good := sv_mem 1410 (by decide +kernel) rfl
theorem lz_ml_72 : Cond.methodLink RL 72 yX11_unlike ∈ lw_good := sv_mem 1407 (by decide +kernel) rfl
theorem lz_im_X11_unlike : Cond.instanceMethod yX11_unlike ∈ lw_good := sv_mem 1408 (by decide +kernel) rfl
theorem lz_se_X11_unlike : Cond.selects RX11 yX11_unlike yX11_unlike ∈ lw_good := sv_mem 1409 (by decide +kernel) rfl
theorem lz_co_X9_quarrel : Cond.code yX9_quarrel cX9_quarrel 4 (some .int) ∈ lw_good := sv_mem 823 (by decide +kernel) rfl
theorem lz_ml_73 : Cond.methodLink RL 73 yX9_quarrel ∈ lw_good := sv_mem 820 (by decide +kernel) rfl
theorem lz_im_X9_quarrel : Cond.instanceMethod yX9_quarrel ∈ lw_good := sv_mem 821 (by decide +kernel) rfl
theorem lz_se_X9_quarrel : Cond.selects RX9 yX9_quarrel yX9_quarrel ∈ lw_good := sv_mem 822 (by decide +kernel) rfl
theorem lz_co_X11_quarrel : Cond.code yX11_quarrel cX11_quarrel 5 (some .int) ∈ lw_good := sv_mem 1418 (by decide +kernel) rfl
theorem lz_ml_77 : Cond.methodLink RL 77 yX11_quarrel ∈ lw_good := sv_mem 1415 (by decide +kernel) rfl
theorem lz_im_X11_quarrel : Cond.instanceMethod yX11_quarrel ∈ lw_good := sv_mem 1416 (by decide +kernel) rfl
theorem lz_se_X11_quarrel : Cond.selects RX11 yX11_quarrel yX11_quarrel ∈ lw_good := sv_mem 1417 (by decide +kernel) rfl
theorem lz_co_X9_rota : Cond.code yX9_rota cX9_rota 7 (some .int) ∈ lw_good := sv_mem 834 (by decide +kernel) rfl
theorem lz_ml_78 : Cond.methodLink RL 78 yX9_rota ∈ lw_good := sv_mem 831 (by decide +kernel) rfl
theorem lz_im_X9_rota : Cond.instanceMethod yX9_rota ∈ lw_good := sv_mem 832 (by decide +kernel) rfl
theorem lz_se_X9_rota : Cond.selects RX9 yX9_rota yX9_rota ∈ lw_good := sv_mem 833 (by decide +kernel) rfl
theorem lz_co_X11_rota : Cond.code yX11_rota cX11_rota 12 (some .int) ∈ lw_good := sv_mem 1425 (by decide +kernel) rfl
theorem lz_ml_81 : Cond.methodLink RL 81 yX11_rota ∈ lw_good := sv_mem 1422 (by decide +kernel) rfl
theorem lz_im_X11_rota : Cond.instanceMethod yX11_rota ∈ lw_good := sv_mem 1423 (by decide +kernel) rfl
theorem lz_se_X11_rota : Cond.selects RX11 yX11_rota yX11_rota ∈ lw_good := sv_mem 1424 (by decide +kernel) rfl
theorem lz_co_X9_turn : Cond.code yX9_turn cX9_turn 3 (some .int) ∈ lw_good := sv_mem 865 (by decide +kernel) rfl
theorem lz_ml_82 : Cond.methodLink RL 82 yX9_turn ∈ lw_good := sv_mem 862 (by decide +kernel) rfl
theorem lz_im_X9_turn : Cond.instanceMethod yX9_turn ∈ lw_good := sv_mem 863 (by decide +kernel) rfl
theorem lz_se_X9_turn : Cond.selects RX9 yX9_turn yX9_turn ∈ lw_good := sv_mem 864 (by decide +kernel) rfl
theorem lz_co_X11_turn : Cond.code yX11_turn cX11_turn 3 (some .int) ∈ lw_good := sv_mem 1439 (by decide +kernel) rfl
theorem lz_ml_86 : Cond.methodLink RL 86 yX11_turn ∈ lw_good := sv_mem 1436 (by decide +kernel) rfl
theorem lz_im_X11_turn : Cond.instanceMethod yX11_turn ∈ lw_good := sv_mem 1437 (by decide +kernel) rfl
theorem lz_se_X11_turn : Cond.selects RX11 yX11_turn yX11_turn ∈ lw_good := sv_mem 1438 (by decide +kernel) rfl
theorem lz_co_X9_carried : Cond.code yX9_carried cX9_carried 2 (some .int) ∈ lw_good := sv_mem 873 (by decide +kernel) rfl
theorem lz_ml_87 : Cond.methodLink RL 87 yX9_carried ∈ lw_good := sv_mem 870 (by decide +kernel) rfl
theorem lz_im_X9_carried : Cond.instanceMethod yX9_carried ∈ lw_good := sv_mem 871 (by decide +kernel) rfl
theorem lz_se_X9_carried : Cond.selects RX9 yX9_carried yX9_carried ∈ lw_good := sv_mem 872 (by decide +kernel) rfl
theorem lz_co_X11_carried : Cond.code yX11_carried cX11_carried 2 (some .int) ∈ lw_good := sv_mem 1444 (by decide +kernel) rfl
theorem lz_ml_90 : Cond.methodLink RL 90 yX11_carried ∈ lw_good := sv_mem 1441 (by decide +kernel) rfl
theorem lz_im_X11_carried : Cond.instanceMethod yX11_carried ∈ lw_good := sv_mem 1442 (by decide +kernel) rfl
theorem lz_se_X11_carried : Cond.selects RX11 yX11_carried yX11_carried ∈ lw_good := sv_mem 1443 (by decide +kernel) rfl
theorem lz_co_X9_street : Cond.code yX9_street cX9_street 4 (some .int) ∈ lw_good := sv_mem 877 (by decide +kernel) rfl
theorem lz_ml_91 : Cond.methodLink RL 91 yX9_street ∈ lw_good := sv_mem 874 (by decide +kernel) rfl
theorem lz_im_X9_street : Cond.instanceMethod yX9_street ∈ lw_good := sv_mem 875 (by decide +kernel) rfl
theorem lz_se_X9_street : Cond.selects RX9 yX9_street yX9_street ∈ lw_good := sv_mem 876 (by decide +kernel) rfl
theorem lz_co_X11_street : Cond.code yX11_street cX11_street 5 (some .int) ∈ lw_good := sv_mem 1448 (by decide +kernel) rfl
theorem lz_ml_94 : Cond.methodLink RL 94 yX11_street ∈ lw_good := sv_mem 1445 (by decide +kernel) rfl
theorem lz_im_X11_street : Cond.instanceMethod yX11_street ∈ lw_good := sv_mem 1446 (by decide +kernel) rfl
theorem lz_se_X11_street : Cond.selects RX11 yX11_street yX11_street ∈ lw_good := sv_mem 1447 (by decide +kernel) rfl
theorem lz_co_X9_begin : Cond.code yX9_begin cX9_begin 5 (some .int) ∈ lw_good := sv_mem 896 (by decide +kernel) rfl
theorem lz_ml_95 : Cond.methodLink RL 95 yX9_begin ∈ lw_good := sv_mem 893 (by decide +kernel) rfl
theorem lz_im_X9_begin : Cond.instanceMethod yX9_begin ∈ lw_good := sv_mem 894 (by decide +kernel) rfl
theorem lz_se_X9_begin : Cond.selects RX9 yX9_begin yX9_begin ∈ lw_good := sv_mem 895 (by decide +kernel) rfl
theorem lz_co_X11_begin : Cond.code yX11_begin cX11_begin 5 (some .int) ∈ lw_good := sv_mem 1457 (by decide +kernel) rfl
theorem lz_ml_98 : Cond.methodLink RL 98 yX11_begin ∈ lw_good := sv_mem 1454 (by decide +kernel) rfl
theorem lz_im_X11_begin : Cond.instanceMethod yX11_begin ∈ lw_good := sv_mem 1455 (by decide +kernel) rfl
theorem lz_se_X11_begin : Cond.selects RX11 yX11_begin yX11_begin ∈ lw_good := sv_mem 1456 (by decide +kernel) rfl
theorem lz_co_X9_goes : Cond.code yX9_goes cX9_goes 5 (some .int) ∈ lw_good := sv_mem 910 (by decide +kernel) rfl
theorem lz_ml_99 : Cond.methodLink RL 99 yX9_goes ∈ lw_good := sv_mem 907 (by decide +kernel) rfl
theorem lz_im_X9_goes : Cond.instanceMethod yX9_goes ∈ lw_good := sv_mem 908 (by decide +kernel) rfl
theorem lz_se_X9_goes : Cond.selects RX9 yX9_goes yX9_goes ∈ lw_good := sv_mem 909 (by decide +kernel) rfl
theorem lz_co_X11_goes : Cond.code yX11_goes cX11_goes 5 (some .int) ∈ lw_good := sv_mem 1467 (by decide +kernel) rfl
theorem lz_ml_102 : Cond.methodLink RL 102 yX11_goes ∈ lw_good := sv_mem 1464 (by decide +kernel) rfl
theorem lz_im_X11_goes : Cond.instanceMethod yX11_goes ∈ lw_good := sv_mem 1465 (by decide +kernel) rfl
theorem lz_se_X11_goes : Cond.selects RX11 yX11_goes yX11_goes ∈ lw_good := sv_mem 1466 (by decide +kernel) rfl
theorem lz_co_X9_late : Cond.code yX9_late cX9_late 4 (some .int) ∈ lw_good := sv_mem 927 (by decide +kernel) rfl
theorem lz_ml_103 : Cond.methodLink RL 103 yX9_late ∈ lw_good := sv_mem 924 (by decide +kernel) rfl
theorem lz_im_X9_late : Cond.instanceMethod yX9_late ∈ lw_good := sv_mem 925 (by decide +kernel) rfl
theorem lz_se_X9_late : Cond.selects RX9 yX9_late yX9_late ∈ lw_good := sv_mem 926 (by decide +kernel) rfl
theorem lz_co_X11_late : Cond.code yX11_late cX11_late 3 (some .int) ∈ lw_good := sv_mem 1471 (by decide +kernel) rfl
theorem lz_ml_106 : Cond.methodLink RL 106 yX11_late ∈ lw_good := sv_mem 1468 (by decide +kernel) rfl
theorem lz_im_X11_late : Cond.instanceMethod yX11_late ∈ lw_good := sv_mem 1469 (by decide +kernel) rfl
theorem lz_se_X11_late : Cond.selects RX11 yX11_late yX11_late ∈ lw_good := sv_mem 1470 (by decide +kernel) rfl
theorem lz_co_X9_procession : Cond.code yX9_procession cX9_procession 3 (some .int) ∈ lw_good := sv_mem 931 (by decide +kernel) rfl
theorem lz_ml_107 : Cond.methodLink RL 107 yX9_procession ∈ lw_good := sv_mem 928 (by decide +kernel) rfl
theorem lz_im_X9_procession : Cond.instanceMethod yX9_procession ∈ lw_good := sv_mem 929 (by decide +kernel) rfl
theorem lz_se_X9_procession : Cond.selects RX9 yX9_procession yX9_procession ∈ lw_good := sv_mem 930 (by decide +kernel) rfl
theorem lz_co_X11_procession : Cond.code yX11_procession cX11_procession 3 (some .int) ∈ lw_good := sv_mem 1476 (by decide +kernel) rfl
theorem lz_ml_110 : Cond.methodLink RL 110 yX11_procession ∈ lw_good := sv_mem 1473 (by decide +kernel) rfl
theorem lz_im_X11_procession : Cond.instanceMethod yX11_procession ∈ lw_good := sv_mem 1474 (by decide +kernel) rfl
theorem lz_se_X11_procession : Cond.selects RX11 yX11_procession yX11_procession ∈ lw_good := sv_mem 1475 (by decide +kernel) rfl
theorem lz_co_X9_meets : Cond.code yX9_meets cX9_meets 3 (some .int) ∈ lw_good := sv_mem 951 (by decide +kernel) rfl
theorem lz_ml_111 : Cond.methodLink RL 111 yX9_meets ∈ lw_good := sv_mem 948 (by decide +kernel) rfl
theorem lz_im_X9_meets : Cond.instanceMethod yX9_meets ∈ lw_good := sv_mem 949 (by decide +kernel) rfl
theorem lz_se_X9_meets : Cond.selects RX9 yX9_meets yX9_meets ∈ lw_good := sv_mem 950 (by decide +kernel) rfl
theorem lz_co_X11_meets : Cond.code yX11_meets cX11_meets 3 (some .int) ∈ lw_good := sv_mem 1485 (by decide +kernel) rfl
theorem lz_ml_115 : Cond.methodLink RL 115 yX11_meets ∈ lw_good := sv_mem 1482 (by decide +kernel) rfl
theorem lz_im_X11_meets : Cond.instanceMethod yX11_meets ∈ lw_good := sv_mem 1483 (by decide +kernel) rfl
theorem lz_se_X11_meets : Cond.selects RX11 yX11_meets yX11_meets ∈ lw_good := sv_mem 1484 (by decide +kernel) rfl
theorem lz_co_X9_meeting : Cond.code yX9_meeting cX9_meeting 3 (some .int) ∈ lw_good := sv_mem 955 (by decide +kernel) rfl
theorem lz_ml_116 : Cond.methodLink RL 116 yX9_meeting ∈ lw_good := sv_mem 974 (by decide +kernel) rfl
theorem lz_im_X9_meeting : Cond.instanceMethod yX9_meeting ∈ lw_good := sv_mem 953 (by decide +kernel) rfl
theorem lz_se_X9_meeting : Cond.selects RX9 yX9_meeting yX9_meeting ∈ lw_good := sv_mem 954 (by decide +kernel) rfl
theorem lz_co_X11_meeting : Cond.code yX11_meeting cX11_meeting 4 (some .int) ∈ lw_good := sv_mem 1502 (by decide +kernel) rfl
theorem lz_ml_119 : Cond.methodLink RL 119 yX11_meeting ∈ lw_good := sv_mem 1499 (by decide +kernel) rfl
theorem lz_im_X11_meeting : Cond.instanceMethod yX11_meeting ∈ lw_good := sv_mem 1500 (by decide +kernel) rfl
theorem lz_se_X11_meeting : Cond.selects RX11 yX11_meeting yX11_meeting ∈ lw_good := sv_mem 1501 (by decide +kernel) rfl
theorem lz_co_X9_timed : Cond.code yX9_timed cX9_timed 3 (some .int) ∈ lw_good := sv_mem 978 (by decide +kernel) rfl
theorem lz_ml_120 : Cond.methodLink RL 120 yX9_timed ∈ lw_good := sv_mem 975 (by decide +kernel) rfl
theorem lz_im_X9_timed : Cond.instanceMethod yX9_timed ∈ lw_good := sv_mem 976 (by decide +kernel) rfl
theorem lz_se_X9_timed : Cond.selects RX9 yX9_timed yX9_timed ∈ lw_good := sv_mem 977 (by decide +kernel) rfl
theorem lz_co_X11_timed : Cond.code yX11_timed cX11_timed 8 (some .int) ∈ lw_good := sv_mem 1506 (by decide +kernel) rfl
theorem lz_ml_123 : Cond.methodLink RL 123 yX11_timed ∈ lw_good := sv_mem 1503 (by decide +kernel) rfl
theorem lz_im_X11_timed : Cond.instanceMethod yX11_timed ∈ lw_good := sv_mem 1504 (by decide +kernel) rfl
theorem lz_se_X11_timed : Cond.selects RX11 yX11_timed yX11_timed ∈ lw_good := sv_mem 1505 (by decide +kernel) rfl
theorem lz_co_X9_count : Cond.code yX9_count cX9_count 2 (some .int) ∈ lw_good := sv_mem 994 (by decide +kernel) rfl
theorem lz_ml_124 : Cond.methodLink RL 124 yX9_count ∈ lw_good := sv_mem 991 (by decide +kernel) rfl
theorem lz_im_X9_count : Cond.instanceMethod yX9_count ∈ lw_good := sv_mem 992 (by decide +kernel) rfl
theorem lz_se_X9_count : Cond.selects RX9 yX9_count yX9_count ∈ lw_good := sv_mem 993 (by decide +kernel) rfl
theorem lz_co_X11_count : Cond.code yX11_count cX11_count 5 (some .int) ∈ lw_good := sv_mem 1510 (by decide +kernel) rfl
theorem lz_ml_127 : Cond.methodLink RL 127 yX11_count ∈ lw_good := sv_mem 1507 (by decide +kernel) rfl
theorem lz_im_X11_count : Cond.instanceMethod yX11_count ∈ lw_good := sv_mem 1508 (by decide +kernel) rfl
theorem lz_se_X11_count : Cond.selects RX11 yX11_count yX11_count ∈ lw_good := sv_mem 1509 (by decide +kernel) rfl
set_option maxHeartbeats 4000000 in
set_option maxRecDepth 100000 in
theorem lz_c0 {p : Program} {l : Launch} {e : Env} {s : State} {m : MethodId} {below : List Frame} {meth : Method} {c : Code} {g : sv_G} {A : Nat → Prop} {b : Nat} {xs : Nat → Int32} {ty : Nat → Nat} {σ : Nat → Nat → Int} {x mm : Nat} {L : Nat} {i : Int} (T : lz_K p s m meth c g A b L xs) (hL : L ≤ 3072) (hi : 0 ≤ i ∧ i + 6 ≤ (L : Int)) (Z : lz_S A ty σ x mm) (kk : ∀ σ2, lz_S A ty σ2 x mm → lz_V p l e s m below meth c b A 433 29939 (sv_H g ty σ2) 1193 [(0, sv_r b), (1, sv_r x), (2, sv_r mm), (3, sv_i i)] []) : lz_V p l e s m below meth c b A 433 29939 (sv_H g ty σ) 156 [(0, sv_r b), (1, sv_r x), (2, sv_r mm), (3, sv_i i)] [] := by
  obtain ⟨C, hX, hbl, hbA, hAs, hr⟩ := T
  obtain ⟨hok, hTA, hI, hx, hm, hR⟩ := Z
  obtain ⟨y1, hy1, ey1⟩ : ∃ z : Int, (-2147483648 ≤ z ∧ z ≤ 2147483647) ∧ (xs (i + 1).toNat).toInt = z := ⟨_, sv_ioin2 _, rfl⟩
  obtain ⟨y2, hy2, ey2⟩ : ∃ z : Int, (-2147483648 ≤ z ∧ z ≤ 2147483647) ∧ (xs (i + 2).toNat).toInt = z := ⟨_, sv_ioin2 _, rfl⟩
  obtain ⟨y3, hy3, ey3⟩ : ∃ z : Int, (-2147483648 ≤ z ∧ z ≤ 2147483647) ∧ (xs (i + 3).toNat).toInt = z := ⟨_, sv_ioin2 _, rfl⟩
  obtain ⟨y4, hy4, ey4⟩ : ∃ z : Int, (-2147483648 ≤ z ∧ z ≤ 2147483647) ∧ (xs (i + 4).toNat).toInt = z := ⟨_, sv_ioin2 _, rfl⟩
  obtain ⟨y5, hy5, ey5⟩ : ∃ z : Int, (-2147483648 ≤ z ∧ z ≤ 2147483647) ∧ (xs (i + 5).toNat).toInt = z := ⟨_, sv_ioin2 _, rfl⟩
  refine sv_go C.1 C.2.1 [(.aload_n 1, 1), (.aload_n 0, 1), (.iload_n 3, 1), (.iconst 1, 1), (.iadd, 1)] (pc' := 161) (by decide +kernel) rfl (lv' := [(0, sv_r b), (1, sv_r x), (2, sv_r mm), (3, sv_i i)]) (st' := [sv_i (i + 1), sv_r b, sv_r x]) rfl ?_
  refine sv_sld C hX hbl hbA (by omega) (j := (i + 1).toNat) (by decide +kernel) (by omega) (by omega) ?_
  rw [ey1]
  refine sv_go C.1 C.2.1 [(.aload_n 0, 1), (.iload_n 3, 1), (.iconst 2, 1), (.iadd, 1)] (pc' := 166) (by decide +kernel) rfl (lv' := [(0, sv_r b), (1, sv_r x), (2, sv_r mm), (3, sv_i i)]) (st' := [sv_i (i + 2), sv_r b, sv_i y1, sv_r x]) rfl ?_
  refine sv_sld C hX hbl hbA (by omega) (j := (i + 2).toNat) (by decide +kernel) (by omega) (by omega) ?_
  rw [ey2]
  refine sv_go C.1 C.2.1 [(.aload_n 0, 1), (.iload_n 3, 1), (.iconst 3, 1), (.iadd, 1)] (pc' := 171) (by decide +kernel) rfl (lv' := [(0, sv_r b), (1, sv_r x), (2, sv_r mm), (3, sv_i i)]) (st' := [sv_i (i + 3), sv_r b, sv_i y2, sv_i y1, sv_r x]) rfl ?_
  refine sv_sld C hX hbl hbA (by omega) (j := (i + 3).toNat) (by decide +kernel) (by omega) (by omega) ?_
  rw [ey3]
  refine sv_go C.1 C.2.1 [(.aload_n 0, 1), (.iload_n 3, 1), (.iconst 4, 1), (.iadd, 1)] (pc' := 176) (by decide +kernel) rfl (lv' := [(0, sv_r b), (1, sv_r x), (2, sv_r mm), (3, sv_i i)]) (st' := [sv_i (i + 4), sv_r b, sv_i y3, sv_i y2, sv_i y1, sv_r x]) rfl ?_
  refine sv_sld C hX hbl hbA (by omega) (j := (i + 4).toNat) (by decide +kernel) (by omega) (by omega) ?_
  rw [ey4]
  refine sv_go C.1 C.2.1 [(.aload_n 0, 1), (.iload_n 3, 1), (.iconst 5, 1), (.iadd, 1)] (pc' := 181) (by decide +kernel) rfl (lv' := [(0, sv_r b), (1, sv_r x), (2, sv_r mm), (3, sv_i i)]) (st' := [sv_i (i + 5), sv_r b, sv_i y4, sv_i y3, sv_i y2, sv_i y1, sv_r x]) rfl ?_
  refine sv_sld C hX hbl hbA (by omega) (j := (i + 5).toNat) (by decide +kernel) (by omega) (by omega) ?_
  rw [ey5]
  refine sv_cv C (index := 13) (k := 5) (rest := []) (as := [sv_i y1, sv_i y2, sv_i y3, sv_i y4, sv_i y5]) (ci := 8) (r := (RX9, TX9, 6)) (by decide +kernel) (sf_X9_feed l g A ty σ hok hTA hI x hx (y1) ⟨by omega, by omega⟩ (y2) ⟨by omega, by omega⟩ (y3) ⟨by omega, by omega⟩ (y4) ⟨by omega, by omega⟩ (y5) ⟨by omega, by omega⟩) ⟨lz_co_X9_feed, lz_in_X9, ⟨by decide, by decide, by decide +kernel⟩, Nat.le_of_ble_eq_true rfl, Nat.le_of_ble_eq_true rfl⟩ lz_ml_13 lz_im_X9_feed lz_se_X9_feed (by rw [hx]; rfl) rfl rfl rfl (Nat.le_of_ble_eq_true rfl) ⟨Nat.le_of_ble_eq_true rfl, Nat.le_of_ble_eq_true rfl⟩ (fun r1 σ1 hp1 hk1 => ?_)
  obtain ⟨⟨v1, rfl, hv1⟩, hI1, hF1⟩ := hp1
  refine sv_same (st2 := [sv_i v1]) (lv2 := [(0, sv_r b), (1, sv_r x), (2, sv_r mm), (3, sv_i i)]) rfl rfl ?_
  refine sv_go C.1 C.2.1 [(.pop, 1), (.aload_n 2, 1), (.aload_n 0, 1), (.iload_n 3, 1), (.iconst 1, 1), (.iadd, 1)] (pc' := 191) (by decide +kernel) rfl (lv' := [(0, sv_r b), (1, sv_r x), (2, sv_r mm), (3, sv_i i)]) (st' := [sv_i (i + 1), sv_r b, sv_r mm]) rfl ?_
  refine sv_sld C hX hbl hbA (by omega) (j := (i + 1).toNat) (by decide +kernel) (by omega) (by omega) ?_
  rw [ey1]
  refine sv_go C.1 C.2.1 [(.aload_n 0, 1), (.iload_n 3, 1), (.iconst 2, 1), (.iadd, 1)] (pc' := 196) (by decide +kernel) rfl (lv' := [(0, sv_r b), (1, sv_r x), (2, sv_r mm), (3, sv_i i)]) (st' := [sv_i (i + 2), sv_r b, sv_i y1, sv_r mm]) rfl ?_
  refine sv_sld C hX hbl hbA (by omega) (j := (i + 2).toNat) (by decide +kernel) (by omega) (by omega) ?_
  rw [ey2]
  refine sv_go C.1 C.2.1 [(.aload_n 0, 1), (.iload_n 3, 1), (.iconst 3, 1), (.iadd, 1)] (pc' := 201) (by decide +kernel) rfl (lv' := [(0, sv_r b), (1, sv_r x), (2, sv_r mm), (3, sv_i i)]) (st' := [sv_i (i + 3), sv_r b, sv_i y2, sv_i y1, sv_r mm]) rfl ?_
  refine sv_sld C hX hbl hbA (by omega) (j := (i + 3).toNat) (by decide +kernel) (by omega) (by omega) ?_
  rw [ey3]
  refine sv_go C.1 C.2.1 [(.aload_n 0, 1), (.iload_n 3, 1), (.iconst 4, 1), (.iadd, 1)] (pc' := 206) (by decide +kernel) rfl (lv' := [(0, sv_r b), (1, sv_r x), (2, sv_r mm), (3, sv_i i)]) (st' := [sv_i (i + 4), sv_r b, sv_i y3, sv_i y2, sv_i y1, sv_r mm]) rfl ?_
  refine sv_sld C hX hbl hbA (by omega) (j := (i + 4).toNat) (by decide +kernel) (by omega) (by omega) ?_
  rw [ey4]
  refine sv_go C.1 C.2.1 [(.aload_n 0, 1), (.iload_n 3, 1), (.iconst 5, 1), (.iadd, 1)] (pc' := 211) (by decide +kernel) rfl (lv' := [(0, sv_r b), (1, sv_r x), (2, sv_r mm), (3, sv_i i)]) (st' := [sv_i (i + 5), sv_r b, sv_i y4, sv_i y3, sv_i y2, sv_i y1, sv_r mm]) rfl ?_
  refine sv_sld C hX hbl hbA (by omega) (j := (i + 5).toNat) (by decide +kernel) (by omega) (by omega) ?_
  rw [ey5]
  refine sv_cv C (index := 17) (k := 5) (rest := []) (as := [sv_i y1, sv_i y2, sv_i y3, sv_i y4, sv_i y5]) (ci := 10) (r := (RX11, TX11, 47)) (by decide +kernel) (sf_X11_feed l g A ty σ1 hk1 hTA hI1 mm hm (y1) ⟨by omega, by omega⟩ (y2) ⟨by omega, by omega⟩ (y3) ⟨by omega, by omega⟩ (y4) ⟨by omega, by omega⟩ (y5) ⟨by omega, by omega⟩) ⟨lz_co_X11_feed, lz_in_X11, ⟨by decide, by decide, by decide +kernel⟩, Nat.le_of_ble_eq_true rfl, Nat.le_of_ble_eq_true rfl⟩ lz_ml_17 lz_im_X11_feed lz_se_X11_feed (by rw [hm]; rfl) rfl rfl rfl (Nat.le_of_ble_eq_true rfl) ⟨Nat.le_of_ble_eq_true rfl, Nat.le_of_ble_eq_true rfl⟩ (fun r2 σ2 hp2 hk2 => ?_)
  obtain ⟨⟨v2, rfl, hv2⟩, hI2, hF2⟩ := hp2
  refine sv_same (st2 := [sv_i v2]) (lv2 := [(0, sv_r b), (1, sv_r x), (2, sv_r mm), (3, sv_i i)]) rfl rfl ?_
  refine sv_go C.1 C.2.1 [(.pop, 1)] (pc' := 216) (by decide +kernel) rfl (lv' := [(0, sv_r b), (1, sv_r x), (2, sv_r mm), (3, sv_i i)]) (st' := []) rfl ?_
  refine sv_goto C.1 C.2.1 (off := 977) (by decide +kernel) (tgt := 1193) rfl ?_
  exact kk σ2 ⟨hk2, hTA, hI2, hx, hm, (lz_keep hx hm hF2 (by decide) (by decide) (by decide) (by decide) (by decide) (by decide) (lz_keep hx hm hF1 (by decide) (by decide) (by decide) (by decide) (by decide) (by decide) hR))⟩
set_option maxHeartbeats 4000000 in
set_option maxRecDepth 100000 in
theorem lz_c1 {p : Program} {l : Launch} {e : Env} {s : State} {m : MethodId} {below : List Frame} {meth : Method} {c : Code} {g : sv_G} {A : Nat → Prop} {b : Nat} {xs : Nat → Int32} {ty : Nat → Nat} {σ : Nat → Nat → Int} {x mm : Nat} {L : Nat} {i : Int} (T : lz_K p s m meth c g A b L xs) (hL : L ≤ 3072) (hi : 0 ≤ i ∧ i + 6 ≤ (L : Int)) (Z : lz_S A ty σ x mm) (kk : ∀ σ2, lz_S A ty σ2 x mm → lz_V p l e s m below meth c b A 433 29939 (sv_H g ty σ2) 1193 [(0, sv_r b), (1, sv_r x), (2, sv_r mm), (3, sv_i i)] []) : lz_V p l e s m below meth c b A 433 29939 (sv_H g ty σ) 219 [(0, sv_r b), (1, sv_r x), (2, sv_r mm), (3, sv_i i)] [] := by
  obtain ⟨C, hX, hbl, hbA, hAs, hr⟩ := T
  obtain ⟨hok, hTA, hI, hx, hm, hR⟩ := Z
  obtain ⟨y1, hy1, ey1⟩ : ∃ z : Int, (-2147483648 ≤ z ∧ z ≤ 2147483647) ∧ (xs (i + 1).toNat).toInt = z := ⟨_, sv_ioin2 _, rfl⟩
  refine sv_go C.1 C.2.1 [(.aload_n 1, 1), (.aload_n 0, 1), (.iload_n 3, 1), (.iconst 1, 1), (.iadd, 1)] (pc' := 224) (by decide +kernel) rfl (lv' := [(0, sv_r b), (1, sv_r x), (2, sv_r mm), (3, sv_i i)]) (st' := [sv_i (i + 1), sv_r b, sv_r x]) rfl ?_
  refine sv_sld C hX hbl hbA (by omega) (j := (i + 1).toNat) (by decide +kernel) (by omega) (by omega) ?_
  rw [ey1]
  refine sv_cv C (index := 18) (k := 1) (rest := []) (as := [sv_i y1]) (ci := 8) (r := (RX9, TX9, 6)) (by decide +kernel) (sf_X9_end l g A ty σ hok hTA hI x hx (y1) ⟨by omega, by omega⟩) ⟨lz_co_X9_end, lz_in_X9, ⟨by decide, by decide, by decide +kernel⟩, Nat.le_of_ble_eq_true rfl, Nat.le_of_ble_eq_true rfl⟩ lz_ml_18 lz_im_X9_end lz_se_X9_end (by rw [hx]; rfl) rfl rfl rfl (Nat.le_of_ble_eq_true rfl) ⟨Nat.le_of_ble_eq_true rfl, Nat.le_of_ble_eq_true rfl⟩ (fun r1 σ1 hp1 hk1 => ?_)
  obtain ⟨⟨v1, rfl, hv1⟩, hI1, hF1⟩ := hp1
  refine sv_same (st2 := [sv_i v1]) (lv2 := [(0, sv_r b), (1, sv_r x), (2, sv_r mm), (3, sv_i i)]) rfl rfl ?_
  refine sv_go C.1 C.2.1 [(.pop, 1), (.aload_n 2, 1), (.aload_n 0, 1), (.iload_n 3, 1), (.iconst 1, 1), (.iadd, 1)] (pc' := 234) (by decide +kernel) rfl (lv' := [(0, sv_r b), (1, sv_r x), (2, sv_r mm), (3, sv_i i)]) (st' := [sv_i (i + 1), sv_r b, sv_r mm]) rfl ?_
  refine sv_sld C hX hbl hbA (by omega) (j := (i + 1).toNat) (by decide +kernel) (by omega) (by omega) ?_
  rw [ey1]
  refine sv_cv C (index := 22) (k := 1) (rest := []) (as := [sv_i y1]) (ci := 10) (r := (RX11, TX11, 47)) (by decide +kernel) (sf_X11_end l g A ty σ1 hk1 hTA hI1 mm hm (y1) ⟨by omega, by omega⟩) ⟨lz_co_X11_end, lz_in_X11, ⟨by decide, by decide, by decide +kernel⟩, Nat.le_of_ble_eq_true rfl, Nat.le_of_ble_eq_true rfl⟩ lz_ml_22 lz_im_X11_end lz_se_X11_end (by rw [hm]; rfl) rfl rfl rfl (Nat.le_of_ble_eq_true rfl) ⟨Nat.le_of_ble_eq_true rfl, Nat.le_of_ble_eq_true rfl⟩ (fun r2 σ2 hp2 hk2 => ?_)
  obtain ⟨⟨v2, rfl, hv2⟩, hI2, hF2⟩ := hp2
  refine sv_same (st2 := [sv_i v2]) (lv2 := [(0, sv_r b), (1, sv_r x), (2, sv_r mm), (3, sv_i i)]) rfl rfl ?_
  refine sv_go C.1 C.2.1 [(.pop, 1)] (pc' := 239) (by decide +kernel) rfl (lv' := [(0, sv_r b), (1, sv_r x), (2, sv_r mm), (3, sv_i i)]) (st' := []) rfl ?_
  refine sv_goto C.1 C.2.1 (off := 954) (by decide +kernel) (tgt := 1193) rfl ?_
  exact kk σ2 ⟨hk2, hTA, hI2, hx, hm, (lz_keep hx hm hF2 (by decide) (by decide) (by decide) (by decide) (by decide) (by decide) (lz_keep hx hm hF1 (by decide) (by decide) (by decide) (by decide) (by decide) (by decide) hR))⟩
set_option maxHeartbeats 4000000 in
set_option maxRecDepth 100000 in
theorem lz_c2 {p : Program} {l : Launch} {e : Env} {s : State} {m : MethodId} {below : List Frame} {meth : Method} {c : Code} {g : sv_G} {A : Nat → Prop} {b : Nat} {xs : Nat → Int32} {ty : Nat → Nat} {σ : Nat → Nat → Int} {x mm : Nat} {L : Nat} {i : Int} (T : lz_K p s m meth c g A b L xs) (hL : L ≤ 3072) (hi : 0 ≤ i ∧ i + 6 ≤ (L : Int)) (Z : lz_S A ty σ x mm) (kk : ∀ σ2, lz_S A ty σ2 x mm → lz_V p l e s m below meth c b A 433 29939 (sv_H g ty σ2) 1193 [(0, sv_r b), (1, sv_r x), (2, sv_r mm), (3, sv_i i)] []) : lz_V p l e s m below meth c b A 433 29939 (sv_H g ty σ) 242 [(0, sv_r b), (1, sv_r x), (2, sv_r mm), (3, sv_i i)] [] := by
  obtain ⟨C, hX, hbl, hbA, hAs, hr⟩ := T
  obtain ⟨hok, hTA, hI, hx, hm, hR⟩ := Z
  obtain ⟨y1, hy1, ey1⟩ : ∃ z : Int, (-2147483648 ≤ z ∧ z ≤ 2147483647) ∧ (xs (i + 1).toNat).toInt = z := ⟨_, sv_ioin2 _, rfl⟩
  refine sv_go C.1 C.2.1 [(.aload_n 1, 1), (.aload_n 0, 1), (.iload_n 3, 1), (.iconst 1, 1), (.iadd, 1)] (pc' := 247) (by decide +kernel) rfl (lv' := [(0, sv_r b), (1, sv_r x), (2, sv_r mm), (3, sv_i i)]) (st' := [sv_i (i + 1), sv_r b, sv_r x]) rfl ?_
  refine sv_sld C hX hbl hbA (by omega) (j := (i + 1).toNat) (by decide +kernel) (by omega) (by omega) ?_
  rw [ey1]
  refine sv_cv C (index := 23) (k := 1) (rest := []) (as := [sv_i y1]) (ci := 8) (r := (RX9, TX9, 6)) (by decide +kernel) (sf_X9_calendar l g A ty σ hok hTA hI x hx (y1) ⟨by omega, by omega⟩) ⟨lz_co_X9_calendar, lz_in_X9, ⟨by decide, by decide, by decide +kernel⟩, Nat.le_of_ble_eq_true rfl, Nat.le_of_ble_eq_true rfl⟩ lz_ml_23 lz_im_X9_calendar lz_se_X9_calendar (by rw [hx]; rfl) rfl rfl rfl (Nat.le_of_ble_eq_true rfl) ⟨Nat.le_of_ble_eq_true rfl, Nat.le_of_ble_eq_true rfl⟩ (fun r1 σ1 hp1 hk1 => ?_)
  obtain ⟨⟨v1, rfl, hv1⟩, hI1, hF1⟩ := hp1
  refine sv_same (st2 := [sv_i v1]) (lv2 := [(0, sv_r b), (1, sv_r x), (2, sv_r mm), (3, sv_i i)]) rfl rfl ?_
  refine sv_go C.1 C.2.1 [(.pop, 1), (.aload_n 2, 1), (.aload_n 0, 1), (.iload_n 3, 1), (.iconst 1, 1), (.iadd, 1)] (pc' := 257) (by decide +kernel) rfl (lv' := [(0, sv_r b), (1, sv_r x), (2, sv_r mm), (3, sv_i i)]) (st' := [sv_i (i + 1), sv_r b, sv_r mm]) rfl ?_
  refine sv_sld C hX hbl hbA (by omega) (j := (i + 1).toNat) (by decide +kernel) (by omega) (by omega) ?_
  rw [ey1]
  refine sv_cvW C (index := 26) (k := 1) (rest := []) (as := [sv_i y1]) (ci := 10) (r := (RX11, TX11, 47)) (by decide +kernel) (sf_X11_calendar l g A ty σ1 hk1 hTA hI1 mm hm (y1) ⟨by omega, by omega⟩) lz_co_X11_calendar lz_in_X11 ⟨by decide, by decide, by decide +kernel⟩ (Nat.le_of_ble_eq_true rfl) (Nat.le_of_ble_eq_true rfl) lz_ml_26 lz_im_X11_calendar lz_se_X11_calendar (by rw [hm]; rfl) rfl rfl rfl (Nat.le_of_ble_eq_true rfl) ⟨Nat.le_of_ble_eq_true rfl, Nat.le_of_ble_eq_true rfl⟩ (fun r2 σ2 hp2 hk2 => ?_)
  obtain ⟨⟨v2, rfl, hv2⟩, hI2, hF2⟩ := hp2
  refine sv_same (st2 := [sv_i v2]) (lv2 := [(0, sv_r b), (1, sv_r x), (2, sv_r mm), (3, sv_i i)]) rfl rfl ?_
  refine sv_go C.1 C.2.1 [(.pop, 1)] (pc' := 262) (by decide +kernel) rfl (lv' := [(0, sv_r b), (1, sv_r x), (2, sv_r mm), (3, sv_i i)]) (st' := []) rfl ?_
  refine sv_goto C.1 C.2.1 (off := 931) (by decide +kernel) (tgt := 1193) rfl ?_
  exact kk σ2 ⟨hk2, hTA, hI2, hx, hm, (lz_keep hx hm hF2 (by decide) (by decide) (by decide) (by decide) (by decide) (by decide) (lz_keep hx hm hF1 (by decide) (by decide) (by decide) (by decide) (by decide) (by decide) hR))⟩
set_option maxHeartbeats 4000000 in
set_option maxRecDepth 100000 in
theorem lz_c3 {p : Program} {l : Launch} {e : Env} {s : State} {m : MethodId} {below : List Frame} {meth : Method} {c : Code} {g : sv_G} {A : Nat → Prop} {b : Nat} {xs : Nat → Int32} {ty : Nat → Nat} {σ : Nat → Nat → Int} {x mm : Nat} {L : Nat} {i : Int} (T : lz_K p s m meth c g A b L xs) (hL : L ≤ 3072) (hi : 0 ≤ i ∧ i + 6 ≤ (L : Int)) (Z : lz_S A ty σ x mm) (kk : ∀ σ2, lz_S A ty σ2 x mm → lz_V p l e s m below meth c b A 433 29939 (sv_H g ty σ2) 1193 [(0, sv_r b), (1, sv_r x), (2, sv_r mm), (3, sv_i i)] []) : lz_V p l e s m below meth c b A 433 29939 (sv_H g ty σ) 265 [(0, sv_r b), (1, sv_r x), (2, sv_r mm), (3, sv_i i)] [] := by
  obtain ⟨C, hX, hbl, hbA, hAs, hr⟩ := T
  obtain ⟨hok, hTA, hI, hx, hm, hR⟩ := Z
  obtain ⟨y1, hy1, ey1⟩ : ∃ z : Int, (-2147483648 ≤ z ∧ z ≤ 2147483647) ∧ (xs (i + 1).toNat).toInt = z := ⟨_, sv_ioin2 _, rfl⟩
  refine sv_go C.1 C.2.1 [(.aload_n 1, 1), (.aload_n 0, 1), (.iload_n 3, 1), (.iconst 1, 1), (.iadd, 1)] (pc' := 270) (by decide +kernel) rfl (lv' := [(0, sv_r b), (1, sv_r x), (2, sv_r mm), (3, sv_i i)]) (st' := [sv_i (i + 1), sv_r b, sv_r x]) rfl ?_
  refine sv_sld C hX hbl hbA (by omega) (j := (i + 1).toNat) (by decide +kernel) (by omega) (by omega) ?_
  rw [ey1]
  refine sv_cv C (index := 27) (k := 1) (rest := []) (as := [sv_i y1]) (ci := 8) (r := (RX9, TX9, 6)) (by decide +kernel) (sf_X9_fault l g A ty σ hok hTA hI x hx (y1) ⟨by omega, by omega⟩) ⟨lz_co_X9_fault, lz_in_X9, ⟨by decide, by decide, by decide +kernel⟩, Nat.le_of_ble_eq_true rfl, Nat.le_of_ble_eq_true rfl⟩ lz_ml_27 lz_im_X9_fault lz_se_X9_fault (by rw [hx]; rfl) rfl rfl rfl (Nat.le_of_ble_eq_true rfl) ⟨Nat.le_of_ble_eq_true rfl, Nat.le_of_ble_eq_true rfl⟩ (fun r1 σ1 hp1 hk1 => ?_)
  obtain ⟨hs1, ⟨v1, rfl, hv1⟩⟩ := hp1
  subst hs1
  refine sv_same (st2 := [sv_i v1]) (lv2 := [(0, sv_r b), (1, sv_r x), (2, sv_r mm), (3, sv_i i)]) rfl rfl ?_
  refine sv_go C.1 C.2.1 [(.pop, 1), (.aload_n 2, 1), (.aload_n 0, 1), (.iload_n 3, 1), (.iconst 1, 1), (.iadd, 1)] (pc' := 280) (by decide +kernel) rfl (lv' := [(0, sv_r b), (1, sv_r x), (2, sv_r mm), (3, sv_i i)]) (st' := [sv_i (i + 1), sv_r b, sv_r mm]) rfl ?_
  refine sv_sld C hX hbl hbA (by omega) (j := (i + 1).toNat) (by decide +kernel) (by omega) (by omega) ?_
  rw [ey1]
  refine sv_cv C (index := 30) (k := 1) (rest := []) (as := [sv_i y1]) (ci := 10) (r := (RX11, TX11, 47)) (by decide +kernel) (sf_X11_fault l g A ty σ hk1 hTA hI mm hm (y1) ⟨by omega, by omega⟩) ⟨lz_co_X11_fault, lz_in_X11, ⟨by decide, by decide, by decide +kernel⟩, Nat.le_of_ble_eq_true rfl, Nat.le_of_ble_eq_true rfl⟩ lz_ml_30 lz_im_X11_fault lz_se_X11_fault (by rw [hm]; rfl) rfl rfl rfl (Nat.le_of_ble_eq_true rfl) ⟨Nat.le_of_ble_eq_true rfl, Nat.le_of_ble_eq_true rfl⟩ (fun r2 σ2 hp2 hk2 => ?_)
  obtain ⟨hs2, ⟨v2, rfl, hv2⟩⟩ := hp2
  subst hs2
  refine sv_same (st2 := [sv_i v2]) (lv2 := [(0, sv_r b), (1, sv_r x), (2, sv_r mm), (3, sv_i i)]) rfl rfl ?_
  refine sv_go C.1 C.2.1 [(.pop, 1)] (pc' := 285) (by decide +kernel) rfl (lv' := [(0, sv_r b), (1, sv_r x), (2, sv_r mm), (3, sv_i i)]) (st' := []) rfl ?_
  refine sv_goto C.1 C.2.1 (off := 908) (by decide +kernel) (tgt := 1193) rfl ?_
  exact kk σ ⟨hk2, hTA, hI, hx, hm, hR⟩
set_option maxHeartbeats 4000000 in
set_option maxRecDepth 100000 in
theorem lz_c4 {p : Program} {l : Launch} {e : Env} {s : State} {m : MethodId} {below : List Frame} {meth : Method} {c : Code} {g : sv_G} {A : Nat → Prop} {b : Nat} {xs : Nat → Int32} {ty : Nat → Nat} {σ : Nat → Nat → Int} {x mm : Nat} {L : Nat} {i : Int} (T : lz_K p s m meth c g A b L xs) (hL : L ≤ 3072) (hi : 0 ≤ i ∧ i + 6 ≤ (L : Int)) (Z : lz_S A ty σ x mm) (kk : ∀ σ2, lz_S A ty σ2 x mm → lz_V p l e s m below meth c b A 433 29939 (sv_H g ty σ2) 1193 [(0, sv_r b), (1, sv_r x), (2, sv_r mm), (3, sv_i i)] []) : lz_V p l e s m below meth c b A 433 29939 (sv_H g ty σ) 288 [(0, sv_r b), (1, sv_r x), (2, sv_r mm), (3, sv_i i)] [] := by
  obtain ⟨C, hX, hbl, hbA, hAs, hr⟩ := T
  obtain ⟨hok, hTA, hI, hx, hm, hR⟩ := Z
  obtain ⟨y1, hy1, ey1⟩ : ∃ z : Int, (-2147483648 ≤ z ∧ z ≤ 2147483647) ∧ (xs (i + 1).toNat).toInt = z := ⟨_, sv_ioin2 _, rfl⟩
  obtain ⟨y2, hy2, ey2⟩ : ∃ z : Int, (-2147483648 ≤ z ∧ z ≤ 2147483647) ∧ (xs (i + 2).toNat).toInt = z := ⟨_, sv_ioin2 _, rfl⟩
  obtain ⟨y3, hy3, ey3⟩ : ∃ z : Int, (-2147483648 ≤ z ∧ z ≤ 2147483647) ∧ (xs (i + 3).toNat).toInt = z := ⟨_, sv_ioin2 _, rfl⟩
  refine sv_go C.1 C.2.1 [(.aload_n 1, 1), (.aload_n 0, 1), (.iload_n 3, 1), (.iconst 1, 1), (.iadd, 1)] (pc' := 293) (by decide +kernel) rfl (lv' := [(0, sv_r b), (1, sv_r x), (2, sv_r mm), (3, sv_i i)]) (st' := [sv_i (i + 1), sv_r b, sv_r x]) rfl ?_
  refine sv_sld C hX hbl hbA (by omega) (j := (i + 1).toNat) (by decide +kernel) (by omega) (by omega) ?_
  rw [ey1]
  refine sv_go C.1 C.2.1 [(.aload_n 0, 1), (.iload_n 3, 1), (.iconst 2, 1), (.iadd, 1)] (pc' := 298) (by decide +kernel) rfl (lv' := [(0, sv_r b), (1, sv_r x), (2, sv_r mm), (3, sv_i i)]) (st' := [sv_i (i + 2), sv_r b, sv_i y1, sv_r x]) rfl ?_
  refine sv_sld C hX hbl hbA (by omega) (j := (i + 2).toNat) (by decide +kernel) (by omega) (by omega) ?_
  rw [ey2]
  refine sv_go C.1 C.2.1 [(.aload_n 0, 1), (.iload_n 3, 1), (.iconst 3, 1), (.iadd, 1)] (pc' := 303) (by decide +kernel) rfl (lv' := [(0, sv_r b), (1, sv_r x), (2, sv_r mm), (3, sv_i i)]) (st' := [sv_i (i + 3), sv_r b, sv_i y2, sv_i y1, sv_r x]) rfl ?_
  refine sv_sld C hX hbl hbA (by omega) (j := (i + 3).toNat) (by decide +kernel) (by omega) (by omega) ?_
  rw [ey3]
  refine sv_cv C (index := 31) (k := 3) (rest := []) (as := [sv_i y1, sv_i y2, sv_i y3]) (ci := 8) (r := (RX9, TX9, 6)) (by decide +kernel) (sf_X9_feast l g A ty σ hok hTA hI x hx (y1) ⟨by omega, by omega⟩ (y2) ⟨by omega, by omega⟩ (y3) ⟨by omega, by omega⟩) ⟨lz_co_X9_feast, lz_in_X9, ⟨by decide, by decide, by decide +kernel⟩, Nat.le_of_ble_eq_true rfl, Nat.le_of_ble_eq_true rfl⟩ lz_ml_31 lz_im_X9_feast lz_se_X9_feast (by rw [hx]; rfl) rfl rfl rfl (Nat.le_of_ble_eq_true rfl) ⟨Nat.le_of_ble_eq_true rfl, Nat.le_of_ble_eq_true rfl⟩ (fun r1 σ1 hp1 hk1 => ?_)
  obtain ⟨hs1, ⟨v1, rfl, hv1⟩⟩ := hp1
  subst hs1
  refine sv_same (st2 := [sv_i v1]) (lv2 := [(0, sv_r b), (1, sv_r x), (2, sv_r mm), (3, sv_i i)]) rfl rfl ?_
  refine sv_go C.1 C.2.1 [(.pop, 1), (.aload_n 2, 1), (.aload_n 0, 1), (.iload_n 3, 1), (.iconst 1, 1), (.iadd, 1)] (pc' := 313) (by decide +kernel) rfl (lv' := [(0, sv_r b), (1, sv_r x), (2, sv_r mm), (3, sv_i i)]) (st' := [sv_i (i + 1), sv_r b, sv_r mm]) rfl ?_
  refine sv_sld C hX hbl hbA (by omega) (j := (i + 1).toNat) (by decide +kernel) (by omega) (by omega) ?_
  rw [ey1]
  refine sv_go C.1 C.2.1 [(.aload_n 0, 1), (.iload_n 3, 1), (.iconst 2, 1), (.iadd, 1)] (pc' := 318) (by decide +kernel) rfl (lv' := [(0, sv_r b), (1, sv_r x), (2, sv_r mm), (3, sv_i i)]) (st' := [sv_i (i + 2), sv_r b, sv_i y1, sv_r mm]) rfl ?_
  refine sv_sld C hX hbl hbA (by omega) (j := (i + 2).toNat) (by decide +kernel) (by omega) (by omega) ?_
  rw [ey2]
  refine sv_go C.1 C.2.1 [(.aload_n 0, 1), (.iload_n 3, 1), (.iconst 3, 1), (.iadd, 1)] (pc' := 323) (by decide +kernel) rfl (lv' := [(0, sv_r b), (1, sv_r x), (2, sv_r mm), (3, sv_i i)]) (st' := [sv_i (i + 3), sv_r b, sv_i y2, sv_i y1, sv_r mm]) rfl ?_
  refine sv_sld C hX hbl hbA (by omega) (j := (i + 3).toNat) (by decide +kernel) (by omega) (by omega) ?_
  rw [ey3]
  refine sv_cv C (index := 35) (k := 3) (rest := []) (as := [sv_i y1, sv_i y2, sv_i y3]) (ci := 10) (r := (RX11, TX11, 47)) (by decide +kernel) (sf_X11_feast l g A ty σ hk1 hTA hI mm hm (y1) ⟨by omega, by omega⟩ (y2) ⟨by omega, by omega⟩ (y3) ⟨by omega, by omega⟩) ⟨lz_co_X11_feast, lz_in_X11, ⟨by decide, by decide, by decide +kernel⟩, Nat.le_of_ble_eq_true rfl, Nat.le_of_ble_eq_true rfl⟩ lz_ml_35 lz_im_X11_feast lz_se_X11_feast (by rw [hm]; rfl) rfl rfl rfl (Nat.le_of_ble_eq_true rfl) ⟨Nat.le_of_ble_eq_true rfl, Nat.le_of_ble_eq_true rfl⟩ (fun r2 σ2 hp2 hk2 => ?_)
  obtain ⟨hs2, ⟨v2, rfl, hv2⟩⟩ := hp2
  subst hs2
  refine sv_same (st2 := [sv_i v2]) (lv2 := [(0, sv_r b), (1, sv_r x), (2, sv_r mm), (3, sv_i i)]) rfl rfl ?_
  refine sv_go C.1 C.2.1 [(.pop, 1)] (pc' := 328) (by decide +kernel) rfl (lv' := [(0, sv_r b), (1, sv_r x), (2, sv_r mm), (3, sv_i i)]) (st' := []) rfl ?_
  refine sv_goto C.1 C.2.1 (off := 865) (by decide +kernel) (tgt := 1193) rfl ?_
  exact kk σ ⟨hk2, hTA, hI, hx, hm, hR⟩
set_option maxHeartbeats 4000000 in
set_option maxRecDepth 100000 in
theorem lz_c5 {p : Program} {l : Launch} {e : Env} {s : State} {m : MethodId} {below : List Frame} {meth : Method} {c : Code} {g : sv_G} {A : Nat → Prop} {b : Nat} {xs : Nat → Int32} {ty : Nat → Nat} {σ : Nat → Nat → Int} {x mm : Nat} {L : Nat} {i : Int} (T : lz_K p s m meth c g A b L xs) (hL : L ≤ 3072) (hi : 0 ≤ i ∧ i + 6 ≤ (L : Int)) (Z : lz_S A ty σ x mm) (kk : ∀ σ2, lz_S A ty σ2 x mm → lz_V p l e s m below meth c b A 433 29939 (sv_H g ty σ2) 1193 [(0, sv_r b), (1, sv_r x), (2, sv_r mm), (3, sv_i i)] []) : lz_V p l e s m below meth c b A 433 29939 (sv_H g ty σ) 331 [(0, sv_r b), (1, sv_r x), (2, sv_r mm), (3, sv_i i)] [] := by
  obtain ⟨C, hX, hbl, hbA, hAs, hr⟩ := T
  obtain ⟨hok, hTA, hI, hx, hm, hR⟩ := Z
  obtain ⟨y1, hy1, ey1⟩ : ∃ z : Int, (-2147483648 ≤ z ∧ z ≤ 2147483647) ∧ (xs (i + 1).toNat).toInt = z := ⟨_, sv_ioin2 _, rfl⟩
  refine sv_go C.1 C.2.1 [(.aload_n 1, 1), (.aload_n 0, 1), (.iload_n 3, 1), (.iconst 1, 1), (.iadd, 1)] (pc' := 336) (by decide +kernel) rfl (lv' := [(0, sv_r b), (1, sv_r x), (2, sv_r mm), (3, sv_i i)]) (st' := [sv_i (i + 1), sv_r b, sv_r x]) rfl ?_
  refine sv_sld C hX hbl hbA (by omega) (j := (i + 1).toNat) (by decide +kernel) (by omega) (by omega) ?_
  rw [ey1]
  refine sv_cv C (index := 36) (k := 1) (rest := []) (as := [sv_i y1]) (ci := 8) (r := (RX9, TX9, 6)) (by decide +kernel) (sf_X9_easter l g A ty σ hok hTA hI x hx (y1) ⟨by omega, by omega⟩) ⟨lz_co_X9_easter, lz_in_X9, ⟨by decide, by decide, by decide +kernel⟩, Nat.le_of_ble_eq_true rfl, Nat.le_of_ble_eq_true rfl⟩ lz_ml_36 lz_im_X9_easter lz_se_X9_easter (by rw [hx]; rfl) rfl rfl rfl (Nat.le_of_ble_eq_true rfl) ⟨Nat.le_of_ble_eq_true rfl, Nat.le_of_ble_eq_true rfl⟩ (fun r1 σ1 hp1 hk1 => ?_)
  obtain ⟨hs1, ⟨v1, rfl, hv1⟩⟩ := hp1
  subst hs1
  refine sv_same (st2 := [sv_i v1]) (lv2 := [(0, sv_r b), (1, sv_r x), (2, sv_r mm), (3, sv_i i)]) rfl rfl ?_
  refine sv_go C.1 C.2.1 [(.pop, 1), (.aload_n 2, 1), (.aload_n 0, 1), (.iload_n 3, 1), (.iconst 1, 1), (.iadd, 1)] (pc' := 346) (by decide +kernel) rfl (lv' := [(0, sv_r b), (1, sv_r x), (2, sv_r mm), (3, sv_i i)]) (st' := [sv_i (i + 1), sv_r b, sv_r mm]) rfl ?_
  refine sv_sld C hX hbl hbA (by omega) (j := (i + 1).toNat) (by decide +kernel) (by omega) (by omega) ?_
  rw [ey1]
  refine sv_cv C (index := 39) (k := 1) (rest := []) (as := [sv_i y1]) (ci := 10) (r := (RX11, TX11, 47)) (by decide +kernel) (sf_X11_easter l g A ty σ hk1 hTA hI mm hm (y1) ⟨by omega, by omega⟩) ⟨lz_co_X11_easter, lz_in_X11, ⟨by decide, by decide, by decide +kernel⟩, Nat.le_of_ble_eq_true rfl, Nat.le_of_ble_eq_true rfl⟩ lz_ml_39 lz_im_X11_easter lz_se_X11_easter (by rw [hm]; rfl) rfl rfl rfl (Nat.le_of_ble_eq_true rfl) ⟨Nat.le_of_ble_eq_true rfl, Nat.le_of_ble_eq_true rfl⟩ (fun r2 σ2 hp2 hk2 => ?_)
  obtain ⟨hs2, ⟨v2, rfl, hv2⟩⟩ := hp2
  subst hs2
  refine sv_same (st2 := [sv_i v2]) (lv2 := [(0, sv_r b), (1, sv_r x), (2, sv_r mm), (3, sv_i i)]) rfl rfl ?_
  refine sv_go C.1 C.2.1 [(.pop, 1)] (pc' := 351) (by decide +kernel) rfl (lv' := [(0, sv_r b), (1, sv_r x), (2, sv_r mm), (3, sv_i i)]) (st' := []) rfl ?_
  refine sv_goto C.1 C.2.1 (off := 842) (by decide +kernel) (tgt := 1193) rfl ?_
  exact kk σ ⟨hk2, hTA, hI, hx, hm, hR⟩
set_option maxHeartbeats 4000000 in
set_option maxRecDepth 100000 in
theorem lz_c6 {p : Program} {l : Launch} {e : Env} {s : State} {m : MethodId} {below : List Frame} {meth : Method} {c : Code} {g : sv_G} {A : Nat → Prop} {b : Nat} {xs : Nat → Int32} {ty : Nat → Nat} {σ : Nat → Nat → Int} {x mm : Nat} {L : Nat} {i : Int} (T : lz_K p s m meth c g A b L xs) (hL : L ≤ 3072) (hi : 0 ≤ i ∧ i + 6 ≤ (L : Int)) (Z : lz_S A ty σ x mm) (kk : ∀ σ2, lz_S A ty σ2 x mm → lz_V p l e s m below meth c b A 433 29939 (sv_H g ty σ2) 1193 [(0, sv_r b), (1, sv_r x), (2, sv_r mm), (3, sv_i i)] []) : lz_V p l e s m below meth c b A 433 29939 (sv_H g ty σ) 354 [(0, sv_r b), (1, sv_r x), (2, sv_r mm), (3, sv_i i)] [] := by
  obtain ⟨C, hX, hbl, hbA, hAs, hr⟩ := T
  obtain ⟨hok, hTA, hI, hx, hm, hR⟩ := Z
  obtain ⟨y1, hy1, ey1⟩ : ∃ z : Int, (-2147483648 ≤ z ∧ z ≤ 2147483647) ∧ (xs (i + 1).toNat).toInt = z := ⟨_, sv_ioin2 _, rfl⟩
  obtain ⟨y2, hy2, ey2⟩ : ∃ z : Int, (-2147483648 ≤ z ∧ z ≤ 2147483647) ∧ (xs (i + 2).toNat).toInt = z := ⟨_, sv_ioin2 _, rfl⟩
  obtain ⟨y3, hy3, ey3⟩ : ∃ z : Int, (-2147483648 ≤ z ∧ z ≤ 2147483647) ∧ (xs (i + 3).toNat).toInt = z := ⟨_, sv_ioin2 _, rfl⟩
  refine sv_go C.1 C.2.1 [(.aload_n 1, 1), (.aload_n 0, 1), (.iload_n 3, 1), (.iconst 1, 1), (.iadd, 1)] (pc' := 359) (by decide +kernel) rfl (lv' := [(0, sv_r b), (1, sv_r x), (2, sv_r mm), (3, sv_i i)]) (st' := [sv_i (i + 1), sv_r b, sv_r x]) rfl ?_
  refine sv_sld C hX hbl hbA (by omega) (j := (i + 1).toNat) (by decide +kernel) (by omega) (by omega) ?_
  rw [ey1]
  refine sv_go C.1 C.2.1 [(.aload_n 0, 1), (.iload_n 3, 1), (.iconst 2, 1), (.iadd, 1)] (pc' := 364) (by decide +kernel) rfl (lv' := [(0, sv_r b), (1, sv_r x), (2, sv_r mm), (3, sv_i i)]) (st' := [sv_i (i + 2), sv_r b, sv_i y1, sv_r x]) rfl ?_
  refine sv_sld C hX hbl hbA (by omega) (j := (i + 2).toNat) (by decide +kernel) (by omega) (by omega) ?_
  rw [ey2]
  refine sv_go C.1 C.2.1 [(.aload_n 0, 1), (.iload_n 3, 1), (.iconst 3, 1), (.iadd, 1)] (pc' := 369) (by decide +kernel) rfl (lv' := [(0, sv_r b), (1, sv_r x), (2, sv_r mm), (3, sv_i i)]) (st' := [sv_i (i + 3), sv_r b, sv_i y2, sv_i y1, sv_r x]) rfl ?_
  refine sv_sld C hX hbl hbA (by omega) (j := (i + 3).toNat) (by decide +kernel) (by omega) (by omega) ?_
  rw [ey3]
  refine sv_cv C (index := 40) (k := 3) (rest := []) (as := [sv_i y1, sv_i y2, sv_i y3]) (ci := 8) (r := (RX9, TX9, 6)) (by decide +kernel) (sf_X9_date l g A ty σ hok hTA hI x hx (y1) ⟨by omega, by omega⟩ (y2) ⟨by omega, by omega⟩ (y3) ⟨by omega, by omega⟩) ⟨lz_co_X9_date, lz_in_X9, ⟨by decide, by decide, by decide +kernel⟩, Nat.le_of_ble_eq_true rfl, Nat.le_of_ble_eq_true rfl⟩ lz_ml_40 lz_im_X9_date lz_se_X9_date (by rw [hx]; rfl) rfl rfl rfl (Nat.le_of_ble_eq_true rfl) ⟨Nat.le_of_ble_eq_true rfl, Nat.le_of_ble_eq_true rfl⟩ (fun r1 σ1 hp1 hk1 => ?_)
  obtain ⟨hs1, ⟨v1, rfl, hv1⟩⟩ := hp1
  subst hs1
  refine sv_same (st2 := [sv_i v1]) (lv2 := [(0, sv_r b), (1, sv_r x), (2, sv_r mm), (3, sv_i i)]) rfl rfl ?_
  refine sv_go C.1 C.2.1 [(.pop, 1), (.aload_n 2, 1), (.aload_n 0, 1), (.iload_n 3, 1), (.iconst 1, 1), (.iadd, 1)] (pc' := 379) (by decide +kernel) rfl (lv' := [(0, sv_r b), (1, sv_r x), (2, sv_r mm), (3, sv_i i)]) (st' := [sv_i (i + 1), sv_r b, sv_r mm]) rfl ?_
  refine sv_sld C hX hbl hbA (by omega) (j := (i + 1).toNat) (by decide +kernel) (by omega) (by omega) ?_
  rw [ey1]
  refine sv_go C.1 C.2.1 [(.aload_n 0, 1), (.iload_n 3, 1), (.iconst 2, 1), (.iadd, 1)] (pc' := 384) (by decide +kernel) rfl (lv' := [(0, sv_r b), (1, sv_r x), (2, sv_r mm), (3, sv_i i)]) (st' := [sv_i (i + 2), sv_r b, sv_i y1, sv_r mm]) rfl ?_
  refine sv_sld C hX hbl hbA (by omega) (j := (i + 2).toNat) (by decide +kernel) (by omega) (by omega) ?_
  rw [ey2]
  refine sv_go C.1 C.2.1 [(.aload_n 0, 1), (.iload_n 3, 1), (.iconst 3, 1), (.iadd, 1)] (pc' := 389) (by decide +kernel) rfl (lv' := [(0, sv_r b), (1, sv_r x), (2, sv_r mm), (3, sv_i i)]) (st' := [sv_i (i + 3), sv_r b, sv_i y2, sv_i y1, sv_r mm]) rfl ?_
  refine sv_sld C hX hbl hbA (by omega) (j := (i + 3).toNat) (by decide +kernel) (by omega) (by omega) ?_
  rw [ey3]
  refine sv_cv C (index := 43) (k := 3) (rest := []) (as := [sv_i y1, sv_i y2, sv_i y3]) (ci := 10) (r := (RX11, TX11, 47)) (by decide +kernel) (sf_X11_date l g A ty σ hk1 hTA hI mm hm (y1) ⟨by omega, by omega⟩ (y2) ⟨by omega, by omega⟩ (y3) ⟨by omega, by omega⟩) ⟨lz_co_X11_date, lz_in_X11, ⟨by decide, by decide, by decide +kernel⟩, Nat.le_of_ble_eq_true rfl, Nat.le_of_ble_eq_true rfl⟩ lz_ml_43 lz_im_X11_date lz_se_X11_date (by rw [hm]; rfl) rfl rfl rfl (Nat.le_of_ble_eq_true rfl) ⟨Nat.le_of_ble_eq_true rfl, Nat.le_of_ble_eq_true rfl⟩ (fun r2 σ2 hp2 hk2 => ?_)
  obtain ⟨hs2, ⟨v2, rfl, hv2⟩⟩ := hp2
  subst hs2
  refine sv_same (st2 := [sv_i v2]) (lv2 := [(0, sv_r b), (1, sv_r x), (2, sv_r mm), (3, sv_i i)]) rfl rfl ?_
  refine sv_go C.1 C.2.1 [(.pop, 1)] (pc' := 394) (by decide +kernel) rfl (lv' := [(0, sv_r b), (1, sv_r x), (2, sv_r mm), (3, sv_i i)]) (st' := []) rfl ?_
  refine sv_goto C.1 C.2.1 (off := 799) (by decide +kernel) (tgt := 1193) rfl ?_
  exact kk σ ⟨hk2, hTA, hI, hx, hm, hR⟩
set_option maxHeartbeats 4000000 in
set_option maxRecDepth 100000 in
theorem lz_c7 {p : Program} {l : Launch} {e : Env} {s : State} {m : MethodId} {below : List Frame} {meth : Method} {c : Code} {g : sv_G} {A : Nat → Prop} {b : Nat} {xs : Nat → Int32} {ty : Nat → Nat} {σ : Nat → Nat → Int} {x mm : Nat} {L : Nat} {i : Int} (T : lz_K p s m meth c g A b L xs) (hL : L ≤ 3072) (hi : 0 ≤ i ∧ i + 6 ≤ (L : Int)) (Z : lz_S A ty σ x mm) (kk : ∀ σ2, lz_S A ty σ2 x mm → lz_V p l e s m below meth c b A 433 29939 (sv_H g ty σ2) 1193 [(0, sv_r b), (1, sv_r x), (2, sv_r mm), (3, sv_i i)] []) : lz_V p l e s m below meth c b A 433 29939 (sv_H g ty σ) 397 [(0, sv_r b), (1, sv_r x), (2, sv_r mm), (3, sv_i i)] [] := by
  obtain ⟨C, hX, hbl, hbA, hAs, hr⟩ := T
  obtain ⟨hok, hTA, hI, hx, hm, hR⟩ := Z
  obtain ⟨y1, hy1, ey1⟩ : ∃ z : Int, (-2147483648 ≤ z ∧ z ≤ 2147483647) ∧ (xs (i + 1).toNat).toInt = z := ⟨_, sv_ioin2 _, rfl⟩
  obtain ⟨y2, hy2, ey2⟩ : ∃ z : Int, (-2147483648 ≤ z ∧ z ≤ 2147483647) ∧ (xs (i + 2).toNat).toInt = z := ⟨_, sv_ioin2 _, rfl⟩
  obtain ⟨y3, hy3, ey3⟩ : ∃ z : Int, (-2147483648 ≤ z ∧ z ≤ 2147483647) ∧ (xs (i + 3).toNat).toInt = z := ⟨_, sv_ioin2 _, rfl⟩
  refine sv_go C.1 C.2.1 [(.aload_n 1, 1), (.aload_n 0, 1), (.iload_n 3, 1), (.iconst 1, 1), (.iadd, 1)] (pc' := 402) (by decide +kernel) rfl (lv' := [(0, sv_r b), (1, sv_r x), (2, sv_r mm), (3, sv_i i)]) (st' := [sv_i (i + 1), sv_r b, sv_r x]) rfl ?_
  refine sv_sld C hX hbl hbA (by omega) (j := (i + 1).toNat) (by decide +kernel) (by omega) (by omega) ?_
  rw [ey1]
  refine sv_go C.1 C.2.1 [(.aload_n 0, 1), (.iload_n 3, 1), (.iconst 2, 1), (.iadd, 1)] (pc' := 407) (by decide +kernel) rfl (lv' := [(0, sv_r b), (1, sv_r x), (2, sv_r mm), (3, sv_i i)]) (st' := [sv_i (i + 2), sv_r b, sv_i y1, sv_r x]) rfl ?_
  refine sv_sld C hX hbl hbA (by omega) (j := (i + 2).toNat) (by decide +kernel) (by omega) (by omega) ?_
  rw [ey2]
  refine sv_go C.1 C.2.1 [(.aload_n 0, 1), (.iload_n 3, 1), (.iconst 3, 1), (.iadd, 1)] (pc' := 412) (by decide +kernel) rfl (lv' := [(0, sv_r b), (1, sv_r x), (2, sv_r mm), (3, sv_i i)]) (st' := [sv_i (i + 3), sv_r b, sv_i y2, sv_i y1, sv_r x]) rfl ?_
  refine sv_sld C hX hbl hbA (by omega) (j := (i + 3).toNat) (by decide +kernel) (by omega) (by omega) ?_
  rw [ey3]
  refine sv_cv C (index := 44) (k := 3) (rest := []) (as := [sv_i y1, sv_i y2, sv_i y3]) (ci := 8) (r := (RX9, TX9, 6)) (by decide +kernel) (sf_X9_office l g A ty σ hok hTA hI x hx (y1) ⟨by omega, by omega⟩ (y2) ⟨by omega, by omega⟩ (y3) ⟨by omega, by omega⟩) ⟨lz_co_X9_office, lz_in_X9, ⟨by decide, by decide, by decide +kernel⟩, Nat.le_of_ble_eq_true rfl, Nat.le_of_ble_eq_true rfl⟩ lz_ml_44 lz_im_X9_office lz_se_X9_office (by rw [hx]; rfl) rfl rfl rfl (Nat.le_of_ble_eq_true rfl) ⟨Nat.le_of_ble_eq_true rfl, Nat.le_of_ble_eq_true rfl⟩ (fun r1 σ1 hp1 hk1 => ?_)
  obtain ⟨⟨v1, rfl, hv1⟩, hI1, hF1⟩ := hp1
  refine sv_same (st2 := [sv_i v1]) (lv2 := [(0, sv_r b), (1, sv_r x), (2, sv_r mm), (3, sv_i i)]) rfl rfl ?_
  refine sv_go C.1 C.2.1 [(.pop, 1), (.aload_n 2, 1), (.aload_n 0, 1), (.iload_n 3, 1), (.iconst 1, 1), (.iadd, 1)] (pc' := 422) (by decide +kernel) rfl (lv' := [(0, sv_r b), (1, sv_r x), (2, sv_r mm), (3, sv_i i)]) (st' := [sv_i (i + 1), sv_r b, sv_r mm]) rfl ?_
  refine sv_sld C hX hbl hbA (by omega) (j := (i + 1).toNat) (by decide +kernel) (by omega) (by omega) ?_
  rw [ey1]
  refine sv_go C.1 C.2.1 [(.aload_n 0, 1), (.iload_n 3, 1), (.iconst 2, 1), (.iadd, 1)] (pc' := 427) (by decide +kernel) rfl (lv' := [(0, sv_r b), (1, sv_r x), (2, sv_r mm), (3, sv_i i)]) (st' := [sv_i (i + 2), sv_r b, sv_i y1, sv_r mm]) rfl ?_
  refine sv_sld C hX hbl hbA (by omega) (j := (i + 2).toNat) (by decide +kernel) (by omega) (by omega) ?_
  rw [ey2]
  refine sv_go C.1 C.2.1 [(.aload_n 0, 1), (.iload_n 3, 1), (.iconst 3, 1), (.iadd, 1)] (pc' := 432) (by decide +kernel) rfl (lv' := [(0, sv_r b), (1, sv_r x), (2, sv_r mm), (3, sv_i i)]) (st' := [sv_i (i + 3), sv_r b, sv_i y2, sv_i y1, sv_r mm]) rfl ?_
  refine sv_sld C hX hbl hbA (by omega) (j := (i + 3).toNat) (by decide +kernel) (by omega) (by omega) ?_
  rw [ey3]
  refine sv_cv C (index := 47) (k := 3) (rest := []) (as := [sv_i y1, sv_i y2, sv_i y3]) (ci := 10) (r := (RX11, TX11, 47)) (by decide +kernel) (sf_X11_office l g A ty σ1 hk1 hTA hI1 mm hm (y1) ⟨by omega, by omega⟩ (y2) ⟨by omega, by omega⟩ (y3) ⟨by omega, by omega⟩) ⟨lz_co_X11_office, lz_in_X11, ⟨by decide, by decide, by decide +kernel⟩, Nat.le_of_ble_eq_true rfl, Nat.le_of_ble_eq_true rfl⟩ lz_ml_47 lz_im_X11_office lz_se_X11_office (by rw [hm]; rfl) rfl rfl rfl (Nat.le_of_ble_eq_true rfl) ⟨Nat.le_of_ble_eq_true rfl, Nat.le_of_ble_eq_true rfl⟩ (fun r2 σ2 hp2 hk2 => ?_)
  obtain ⟨⟨v2, rfl, hv2⟩, hI2, hF2⟩ := hp2
  refine sv_same (st2 := [sv_i v2]) (lv2 := [(0, sv_r b), (1, sv_r x), (2, sv_r mm), (3, sv_i i)]) rfl rfl ?_
  refine sv_go C.1 C.2.1 [(.pop, 1)] (pc' := 437) (by decide +kernel) rfl (lv' := [(0, sv_r b), (1, sv_r x), (2, sv_r mm), (3, sv_i i)]) (st' := []) rfl ?_
  refine sv_goto C.1 C.2.1 (off := 756) (by decide +kernel) (tgt := 1193) rfl ?_
  exact kk σ2 ⟨hk2, hTA, hI2, hx, hm, (lz_keep hx hm hF2 (by decide) (by decide) (by decide) (by decide) (by decide) (by decide) (lz_keep hx hm hF1 (by decide) (by decide) (by decide) (by decide) (by decide) (by decide) hR))⟩
set_option maxHeartbeats 4000000 in
set_option maxRecDepth 100000 in
theorem lz_c8 {p : Program} {l : Launch} {e : Env} {s : State} {m : MethodId} {below : List Frame} {meth : Method} {c : Code} {g : sv_G} {A : Nat → Prop} {b : Nat} {xs : Nat → Int32} {ty : Nat → Nat} {σ : Nat → Nat → Int} {x mm : Nat} {L : Nat} {i : Int} (T : lz_K p s m meth c g A b L xs) (hL : L ≤ 3072) (hi : 0 ≤ i ∧ i + 6 ≤ (L : Int)) (Z : lz_S A ty σ x mm) (kk : ∀ σ2, lz_S A ty σ2 x mm → lz_V p l e s m below meth c b A 433 29939 (sv_H g ty σ2) 1193 [(0, sv_r b), (1, sv_r x), (2, sv_r mm), (3, sv_i i)] []) : lz_V p l e s m below meth c b A 433 29939 (sv_H g ty σ) 440 [(0, sv_r b), (1, sv_r x), (2, sv_r mm), (3, sv_i i)] [] := by
  obtain ⟨C, hX, hbl, hbA, hAs, hr⟩ := T
  obtain ⟨hok, hTA, hI, hx, hm, hR⟩ := Z
  obtain ⟨y1, hy1, ey1⟩ : ∃ z : Int, (-2147483648 ≤ z ∧ z ≤ 2147483647) ∧ (xs (i + 1).toNat).toInt = z := ⟨_, sv_ioin2 _, rfl⟩
  obtain ⟨y2, hy2, ey2⟩ : ∃ z : Int, (-2147483648 ≤ z ∧ z ≤ 2147483647) ∧ (xs (i + 2).toNat).toInt = z := ⟨_, sv_ioin2 _, rfl⟩
  obtain ⟨y3, hy3, ey3⟩ : ∃ z : Int, (-2147483648 ≤ z ∧ z ≤ 2147483647) ∧ (xs (i + 3).toNat).toInt = z := ⟨_, sv_ioin2 _, rfl⟩
  refine sv_go C.1 C.2.1 [(.aload_n 1, 1), (.aload_n 0, 1), (.iload_n 3, 1), (.iconst 1, 1), (.iadd, 1)] (pc' := 445) (by decide +kernel) rfl (lv' := [(0, sv_r b), (1, sv_r x), (2, sv_r mm), (3, sv_i i)]) (st' := [sv_i (i + 1), sv_r b, sv_r x]) rfl ?_
  refine sv_sld C hX hbl hbA (by omega) (j := (i + 1).toNat) (by decide +kernel) (by omega) (by omega) ?_
  rw [ey1]
  refine sv_go C.1 C.2.1 [(.aload_n 0, 1), (.iload_n 3, 1), (.iconst 2, 1), (.iadd, 1)] (pc' := 450) (by decide +kernel) rfl (lv' := [(0, sv_r b), (1, sv_r x), (2, sv_r mm), (3, sv_i i)]) (st' := [sv_i (i + 2), sv_r b, sv_i y1, sv_r x]) rfl ?_
  refine sv_sld C hX hbl hbA (by omega) (j := (i + 2).toNat) (by decide +kernel) (by omega) (by omega) ?_
  rw [ey2]
  refine sv_go C.1 C.2.1 [(.aload_n 0, 1), (.iload_n 3, 1), (.iconst 3, 1), (.iadd, 1)] (pc' := 455) (by decide +kernel) rfl (lv' := [(0, sv_r b), (1, sv_r x), (2, sv_r mm), (3, sv_i i)]) (st' := [sv_i (i + 3), sv_r b, sv_i y2, sv_i y1, sv_r x]) rfl ?_
  refine sv_sld C hX hbl hbA (by omega) (j := (i + 3).toNat) (by decide +kernel) (by omega) (by omega) ?_
  rw [ey3]
  refine sv_cv C (index := 48) (k := 3) (rest := []) (as := [sv_i y1, sv_i y2, sv_i y3]) (ci := 8) (r := (RX9, TX9, 6)) (by decide +kernel) (sf_X9_held l g A ty σ hok hTA hI x hx (y1) ⟨by omega, by omega⟩ (y2) ⟨by omega, by omega⟩ (y3) ⟨by omega, by omega⟩) ⟨lz_co_X9_held, lz_in_X9, ⟨by decide, by decide, by decide +kernel⟩, Nat.le_of_ble_eq_true rfl, Nat.le_of_ble_eq_true rfl⟩ lz_ml_48 lz_im_X9_held lz_se_X9_held (by rw [hx]; rfl) rfl rfl rfl (Nat.le_of_ble_eq_true rfl) ⟨Nat.le_of_ble_eq_true rfl, Nat.le_of_ble_eq_true rfl⟩ (fun r1 σ1 hp1 hk1 => ?_)
  obtain ⟨⟨v1, rfl, hv1⟩, hI1, hF1⟩ := hp1
  refine sv_same (st2 := [sv_i v1]) (lv2 := [(0, sv_r b), (1, sv_r x), (2, sv_r mm), (3, sv_i i)]) rfl rfl ?_
  refine sv_go C.1 C.2.1 [(.pop, 1), (.aload_n 2, 1), (.aload_n 0, 1), (.iload_n 3, 1), (.iconst 1, 1), (.iadd, 1)] (pc' := 465) (by decide +kernel) rfl (lv' := [(0, sv_r b), (1, sv_r x), (2, sv_r mm), (3, sv_i i)]) (st' := [sv_i (i + 1), sv_r b, sv_r mm]) rfl ?_
  refine sv_sld C hX hbl hbA (by omega) (j := (i + 1).toNat) (by decide +kernel) (by omega) (by omega) ?_
  rw [ey1]
  refine sv_go C.1 C.2.1 [(.aload_n 0, 1), (.iload_n 3, 1), (.iconst 2, 1), (.iadd, 1)] (pc' := 470) (by decide +kernel) rfl (lv' := [(0, sv_r b), (1, sv_r x), (2, sv_r mm), (3, sv_i i)]) (st' := [sv_i (i + 2), sv_r b, sv_i y1, sv_r mm]) rfl ?_
  refine sv_sld C hX hbl hbA (by omega) (j := (i + 2).toNat) (by decide +kernel) (by omega) (by omega) ?_
  rw [ey2]
  refine sv_go C.1 C.2.1 [(.aload_n 0, 1), (.iload_n 3, 1), (.iconst 3, 1), (.iadd, 1)] (pc' := 475) (by decide +kernel) rfl (lv' := [(0, sv_r b), (1, sv_r x), (2, sv_r mm), (3, sv_i i)]) (st' := [sv_i (i + 3), sv_r b, sv_i y2, sv_i y1, sv_r mm]) rfl ?_
  refine sv_sld C hX hbl hbA (by omega) (j := (i + 3).toNat) (by decide +kernel) (by omega) (by omega) ?_
  rw [ey3]
  refine sv_cv C (index := 51) (k := 3) (rest := []) (as := [sv_i y1, sv_i y2, sv_i y3]) (ci := 10) (r := (RX11, TX11, 47)) (by decide +kernel) (sf_X11_held l g A ty σ1 hk1 hTA hI1 mm hm (y1) ⟨by omega, by omega⟩ (y2) ⟨by omega, by omega⟩ (y3) ⟨by omega, by omega⟩) ⟨lz_co_X11_held, lz_in_X11, ⟨by decide, by decide, by decide +kernel⟩, Nat.le_of_ble_eq_true rfl, Nat.le_of_ble_eq_true rfl⟩ lz_ml_51 lz_im_X11_held lz_se_X11_held (by rw [hm]; rfl) rfl rfl rfl (Nat.le_of_ble_eq_true rfl) ⟨Nat.le_of_ble_eq_true rfl, Nat.le_of_ble_eq_true rfl⟩ (fun r2 σ2 hp2 hk2 => ?_)
  obtain ⟨⟨v2, rfl, hv2⟩, hI2, hF2⟩ := hp2
  refine sv_same (st2 := [sv_i v2]) (lv2 := [(0, sv_r b), (1, sv_r x), (2, sv_r mm), (3, sv_i i)]) rfl rfl ?_
  refine sv_go C.1 C.2.1 [(.pop, 1)] (pc' := 480) (by decide +kernel) rfl (lv' := [(0, sv_r b), (1, sv_r x), (2, sv_r mm), (3, sv_i i)]) (st' := []) rfl ?_
  refine sv_goto C.1 C.2.1 (off := 713) (by decide +kernel) (tgt := 1193) rfl ?_
  exact kk σ2 ⟨hk2, hTA, hI2, hx, hm, (lz_keep hx hm hF2 (by decide) (by decide) (by decide) (by decide) (by decide) (by decide) (lz_keep hx hm hF1 (by decide) (by decide) (by decide) (by decide) (by decide) (by decide) hR))⟩
set_option maxHeartbeats 4000000 in
set_option maxRecDepth 100000 in
theorem lz_c9 {p : Program} {l : Launch} {e : Env} {s : State} {m : MethodId} {below : List Frame} {meth : Method} {c : Code} {g : sv_G} {A : Nat → Prop} {b : Nat} {xs : Nat → Int32} {ty : Nat → Nat} {σ : Nat → Nat → Int} {x mm : Nat} {L : Nat} {i : Int} (T : lz_K p s m meth c g A b L xs) (hL : L ≤ 3072) (hi : 0 ≤ i ∧ i + 6 ≤ (L : Int)) (Z : lz_S A ty σ x mm) (kk : ∀ σ2, lz_S A ty σ2 x mm → lz_V p l e s m below meth c b A 433 29939 (sv_H g ty σ2) 1193 [(0, sv_r b), (1, sv_r x), (2, sv_r mm), (3, sv_i i)] []) : lz_V p l e s m below meth c b A 433 29939 (sv_H g ty σ) 483 [(0, sv_r b), (1, sv_r x), (2, sv_r mm), (3, sv_i i)] [] := by
  obtain ⟨C, hX, hbl, hbA, hAs, hr⟩ := T
  obtain ⟨hok, hTA, hI, hx, hm, hR⟩ := Z
  obtain ⟨y1, hy1, ey1⟩ : ∃ z : Int, (-2147483648 ≤ z ∧ z ≤ 2147483647) ∧ (xs (i + 1).toNat).toInt = z := ⟨_, sv_ioin2 _, rfl⟩
  obtain ⟨y2, hy2, ey2⟩ : ∃ z : Int, (-2147483648 ≤ z ∧ z ≤ 2147483647) ∧ (xs (i + 2).toNat).toInt = z := ⟨_, sv_ioin2 _, rfl⟩
  obtain ⟨y3, hy3, ey3⟩ : ∃ z : Int, (-2147483648 ≤ z ∧ z ≤ 2147483647) ∧ (xs (i + 3).toNat).toInt = z := ⟨_, sv_ioin2 _, rfl⟩
  refine sv_go C.1 C.2.1 [(.aload_n 1, 1), (.aload_n 0, 1), (.iload_n 3, 1), (.iconst 1, 1), (.iadd, 1)] (pc' := 488) (by decide +kernel) rfl (lv' := [(0, sv_r b), (1, sv_r x), (2, sv_r mm), (3, sv_i i)]) (st' := [sv_i (i + 1), sv_r b, sv_r x]) rfl ?_
  refine sv_sld C hX hbl hbA (by omega) (j := (i + 1).toNat) (by decide +kernel) (by omega) (by omega) ?_
  rw [ey1]
  refine sv_go C.1 C.2.1 [(.aload_n 0, 1), (.iload_n 3, 1), (.iconst 2, 1), (.iadd, 1)] (pc' := 493) (by decide +kernel) rfl (lv' := [(0, sv_r b), (1, sv_r x), (2, sv_r mm), (3, sv_i i)]) (st' := [sv_i (i + 2), sv_r b, sv_i y1, sv_r x]) rfl ?_
  refine sv_sld C hX hbl hbA (by omega) (j := (i + 2).toNat) (by decide +kernel) (by omega) (by omega) ?_
  rw [ey2]
  refine sv_go C.1 C.2.1 [(.aload_n 0, 1), (.iload_n 3, 1), (.iconst 3, 1), (.iadd, 1)] (pc' := 498) (by decide +kernel) rfl (lv' := [(0, sv_r b), (1, sv_r x), (2, sv_r mm), (3, sv_i i)]) (st' := [sv_i (i + 3), sv_r b, sv_i y2, sv_i y1, sv_r x]) rfl ?_
  refine sv_sld C hX hbl hbA (by omega) (j := (i + 3).toNat) (by decide +kernel) (by omega) (by omega) ?_
  rw [ey3]
  refine sv_cv C (index := 52) (k := 3) (rest := []) (as := [sv_i y1, sv_i y2, sv_i y3]) (ci := 8) (r := (RX9, TX9, 6)) (by decide +kernel) (sf_X9_own l g A ty σ hok hTA hI x hx (y1) ⟨by omega, by omega⟩ (y2) ⟨by omega, by omega⟩ (y3) ⟨by omega, by omega⟩) ⟨lz_co_X9_own, lz_in_X9, ⟨by decide, by decide, by decide +kernel⟩, Nat.le_of_ble_eq_true rfl, Nat.le_of_ble_eq_true rfl⟩ lz_ml_52 lz_im_X9_own lz_se_X9_own (by rw [hx]; rfl) rfl rfl rfl (Nat.le_of_ble_eq_true rfl) ⟨Nat.le_of_ble_eq_true rfl, Nat.le_of_ble_eq_true rfl⟩ (fun r1 σ1 hp1 hk1 => ?_)
  obtain ⟨hs1, ⟨v1, rfl, hv1⟩⟩ := hp1
  subst hs1
  refine sv_same (st2 := [sv_i v1]) (lv2 := [(0, sv_r b), (1, sv_r x), (2, sv_r mm), (3, sv_i i)]) rfl rfl ?_
  refine sv_go C.1 C.2.1 [(.pop, 1), (.aload_n 2, 1), (.aload_n 0, 1), (.iload_n 3, 1), (.iconst 1, 1), (.iadd, 1)] (pc' := 508) (by decide +kernel) rfl (lv' := [(0, sv_r b), (1, sv_r x), (2, sv_r mm), (3, sv_i i)]) (st' := [sv_i (i + 1), sv_r b, sv_r mm]) rfl ?_
  refine sv_sld C hX hbl hbA (by omega) (j := (i + 1).toNat) (by decide +kernel) (by omega) (by omega) ?_
  rw [ey1]
  refine sv_go C.1 C.2.1 [(.aload_n 0, 1), (.iload_n 3, 1), (.iconst 2, 1), (.iadd, 1)] (pc' := 513) (by decide +kernel) rfl (lv' := [(0, sv_r b), (1, sv_r x), (2, sv_r mm), (3, sv_i i)]) (st' := [sv_i (i + 2), sv_r b, sv_i y1, sv_r mm]) rfl ?_
  refine sv_sld C hX hbl hbA (by omega) (j := (i + 2).toNat) (by decide +kernel) (by omega) (by omega) ?_
  rw [ey2]
  refine sv_go C.1 C.2.1 [(.aload_n 0, 1), (.iload_n 3, 1), (.iconst 3, 1), (.iadd, 1)] (pc' := 518) (by decide +kernel) rfl (lv' := [(0, sv_r b), (1, sv_r x), (2, sv_r mm), (3, sv_i i)]) (st' := [sv_i (i + 3), sv_r b, sv_i y2, sv_i y1, sv_r mm]) rfl ?_
  refine sv_sld C hX hbl hbA (by omega) (j := (i + 3).toNat) (by decide +kernel) (by omega) (by omega) ?_
  rw [ey3]
  refine sv_cv C (index := 55) (k := 3) (rest := []) (as := [sv_i y1, sv_i y2, sv_i y3]) (ci := 10) (r := (RX11, TX11, 47)) (by decide +kernel) (sf_X11_own l g A ty σ hk1 hTA hI mm hm (y1) ⟨by omega, by omega⟩ (y2) ⟨by omega, by omega⟩ (y3) ⟨by omega, by omega⟩) ⟨lz_co_X11_own, lz_in_X11, ⟨by decide, by decide, by decide +kernel⟩, Nat.le_of_ble_eq_true rfl, Nat.le_of_ble_eq_true rfl⟩ lz_ml_55 lz_im_X11_own lz_se_X11_own (by rw [hm]; rfl) rfl rfl rfl (Nat.le_of_ble_eq_true rfl) ⟨Nat.le_of_ble_eq_true rfl, Nat.le_of_ble_eq_true rfl⟩ (fun r2 σ2 hp2 hk2 => ?_)
  obtain ⟨hs2, ⟨v2, rfl, hv2⟩⟩ := hp2
  subst hs2
  refine sv_same (st2 := [sv_i v2]) (lv2 := [(0, sv_r b), (1, sv_r x), (2, sv_r mm), (3, sv_i i)]) rfl rfl ?_
  refine sv_go C.1 C.2.1 [(.pop, 1)] (pc' := 523) (by decide +kernel) rfl (lv' := [(0, sv_r b), (1, sv_r x), (2, sv_r mm), (3, sv_i i)]) (st' := []) rfl ?_
  refine sv_goto C.1 C.2.1 (off := 670) (by decide +kernel) (tgt := 1193) rfl ?_
  exact kk σ ⟨hk2, hTA, hI, hx, hm, hR⟩
set_option maxHeartbeats 4000000 in
set_option maxRecDepth 100000 in
theorem lz_c10 {p : Program} {l : Launch} {e : Env} {s : State} {m : MethodId} {below : List Frame} {meth : Method} {c : Code} {g : sv_G} {A : Nat → Prop} {b : Nat} {xs : Nat → Int32} {ty : Nat → Nat} {σ : Nat → Nat → Int} {x mm : Nat} {L : Nat} {i : Int} (T : lz_K p s m meth c g A b L xs) (hL : L ≤ 3072) (hi : 0 ≤ i ∧ i + 6 ≤ (L : Int)) (Z : lz_S A ty σ x mm) (kk : ∀ σ2, lz_S A ty σ2 x mm → lz_V p l e s m below meth c b A 433 29939 (sv_H g ty σ2) 1193 [(0, sv_r b), (1, sv_r x), (2, sv_r mm), (3, sv_i i)] []) : lz_V p l e s m below meth c b A 433 29939 (sv_H g ty σ) 526 [(0, sv_r b), (1, sv_r x), (2, sv_r mm), (3, sv_i i)] [] := by
  obtain ⟨C, hX, hbl, hbA, hAs, hr⟩ := T
  obtain ⟨hok, hTA, hI, hx, hm, hR⟩ := Z
  obtain ⟨y1, hy1, ey1⟩ : ∃ z : Int, (-2147483648 ≤ z ∧ z ≤ 2147483647) ∧ (xs (i + 1).toNat).toInt = z := ⟨_, sv_ioin2 _, rfl⟩
  obtain ⟨y2, hy2, ey2⟩ : ∃ z : Int, (-2147483648 ≤ z ∧ z ≤ 2147483647) ∧ (xs (i + 2).toNat).toInt = z := ⟨_, sv_ioin2 _, rfl⟩
  obtain ⟨y3, hy3, ey3⟩ : ∃ z : Int, (-2147483648 ≤ z ∧ z ≤ 2147483647) ∧ (xs (i + 3).toNat).toInt = z := ⟨_, sv_ioin2 _, rfl⟩
  refine sv_go C.1 C.2.1 [(.aload_n 1, 1), (.aload_n 0, 1), (.iload_n 3, 1), (.iconst 1, 1), (.iadd, 1)] (pc' := 531) (by decide +kernel) rfl (lv' := [(0, sv_r b), (1, sv_r x), (2, sv_r mm), (3, sv_i i)]) (st' := [sv_i (i + 1), sv_r b, sv_r x]) rfl ?_
  refine sv_sld C hX hbl hbA (by omega) (j := (i + 1).toNat) (by decide +kernel) (by omega) (by omega) ?_
  rw [ey1]
  refine sv_go C.1 C.2.1 [(.aload_n 0, 1), (.iload_n 3, 1), (.iconst 2, 1), (.iadd, 1)] (pc' := 536) (by decide +kernel) rfl (lv' := [(0, sv_r b), (1, sv_r x), (2, sv_r mm), (3, sv_i i)]) (st' := [sv_i (i + 2), sv_r b, sv_i y1, sv_r x]) rfl ?_
  refine sv_sld C hX hbl hbA (by omega) (j := (i + 2).toNat) (by decide +kernel) (by omega) (by omega) ?_
  rw [ey2]
  refine sv_go C.1 C.2.1 [(.aload_n 0, 1), (.iload_n 3, 1), (.iconst 3, 1), (.iadd, 1)] (pc' := 541) (by decide +kernel) rfl (lv' := [(0, sv_r b), (1, sv_r x), (2, sv_r mm), (3, sv_i i)]) (st' := [sv_i (i + 3), sv_r b, sv_i y2, sv_i y1, sv_r x]) rfl ?_
  refine sv_sld C hX hbl hbA (by omega) (j := (i + 3).toNat) (by decide +kernel) (by omega) (by omega) ?_
  rw [ey3]
  refine sv_cv C (index := 56) (k := 3) (rest := []) (as := [sv_i y1, sv_i y2, sv_i y3]) (ci := 8) (r := (RX9, TX9, 6)) (by decide +kernel) (sf_X9_fast l g A ty σ hok hTA hI x hx (y1) ⟨by omega, by omega⟩ (y2) ⟨by omega, by omega⟩ (y3) ⟨by omega, by omega⟩) ⟨lz_co_X9_fast, lz_in_X9, ⟨by decide, by decide, by decide +kernel⟩, Nat.le_of_ble_eq_true rfl, Nat.le_of_ble_eq_true rfl⟩ lz_ml_56 lz_im_X9_fast lz_se_X9_fast (by rw [hx]; rfl) rfl rfl rfl (Nat.le_of_ble_eq_true rfl) ⟨Nat.le_of_ble_eq_true rfl, Nat.le_of_ble_eq_true rfl⟩ (fun r1 σ1 hp1 hk1 => ?_)
  obtain ⟨⟨v1, rfl, hv1⟩, hI1, hF1⟩ := hp1
  refine sv_same (st2 := [sv_i v1]) (lv2 := [(0, sv_r b), (1, sv_r x), (2, sv_r mm), (3, sv_i i)]) rfl rfl ?_
  refine sv_go C.1 C.2.1 [(.pop, 1), (.aload_n 2, 1), (.aload_n 0, 1), (.iload_n 3, 1), (.iconst 1, 1), (.iadd, 1)] (pc' := 551) (by decide +kernel) rfl (lv' := [(0, sv_r b), (1, sv_r x), (2, sv_r mm), (3, sv_i i)]) (st' := [sv_i (i + 1), sv_r b, sv_r mm]) rfl ?_
  refine sv_sld C hX hbl hbA (by omega) (j := (i + 1).toNat) (by decide +kernel) (by omega) (by omega) ?_
  rw [ey1]
  refine sv_go C.1 C.2.1 [(.aload_n 0, 1), (.iload_n 3, 1), (.iconst 2, 1), (.iadd, 1)] (pc' := 556) (by decide +kernel) rfl (lv' := [(0, sv_r b), (1, sv_r x), (2, sv_r mm), (3, sv_i i)]) (st' := [sv_i (i + 2), sv_r b, sv_i y1, sv_r mm]) rfl ?_
  refine sv_sld C hX hbl hbA (by omega) (j := (i + 2).toNat) (by decide +kernel) (by omega) (by omega) ?_
  rw [ey2]
  refine sv_go C.1 C.2.1 [(.aload_n 0, 1), (.iload_n 3, 1), (.iconst 3, 1), (.iadd, 1)] (pc' := 561) (by decide +kernel) rfl (lv' := [(0, sv_r b), (1, sv_r x), (2, sv_r mm), (3, sv_i i)]) (st' := [sv_i (i + 3), sv_r b, sv_i y2, sv_i y1, sv_r mm]) rfl ?_
  refine sv_sld C hX hbl hbA (by omega) (j := (i + 3).toNat) (by decide +kernel) (by omega) (by omega) ?_
  rw [ey3]
  refine sv_cv C (index := 59) (k := 3) (rest := []) (as := [sv_i y1, sv_i y2, sv_i y3]) (ci := 10) (r := (RX11, TX11, 47)) (by decide +kernel) (sf_X11_fast l g A ty σ1 hk1 hTA hI1 mm hm (y1) ⟨by omega, by omega⟩ (y2) ⟨by omega, by omega⟩ (y3) ⟨by omega, by omega⟩) ⟨lz_co_X11_fast, lz_in_X11, ⟨by decide, by decide, by decide +kernel⟩, Nat.le_of_ble_eq_true rfl, Nat.le_of_ble_eq_true rfl⟩ lz_ml_59 lz_im_X11_fast lz_se_X11_fast (by rw [hm]; rfl) rfl rfl rfl (Nat.le_of_ble_eq_true rfl) ⟨Nat.le_of_ble_eq_true rfl, Nat.le_of_ble_eq_true rfl⟩ (fun r2 σ2 hp2 hk2 => ?_)
  obtain ⟨⟨v2, rfl, hv2⟩, hI2, hF2⟩ := hp2
  refine sv_same (st2 := [sv_i v2]) (lv2 := [(0, sv_r b), (1, sv_r x), (2, sv_r mm), (3, sv_i i)]) rfl rfl ?_
  refine sv_go C.1 C.2.1 [(.pop, 1)] (pc' := 566) (by decide +kernel) rfl (lv' := [(0, sv_r b), (1, sv_r x), (2, sv_r mm), (3, sv_i i)]) (st' := []) rfl ?_
  refine sv_goto C.1 C.2.1 (off := 627) (by decide +kernel) (tgt := 1193) rfl ?_
  exact kk σ2 ⟨hk2, hTA, hI2, hx, hm, (lz_keep hx hm hF2 (by decide) (by decide) (by decide) (by decide) (by decide) (by decide) (lz_keep hx hm hF1 (by decide) (by decide) (by decide) (by decide) (by decide) (by decide) hR))⟩
set_option maxHeartbeats 4000000 in
set_option maxRecDepth 100000 in
theorem lz_c11 {p : Program} {l : Launch} {e : Env} {s : State} {m : MethodId} {below : List Frame} {meth : Method} {c : Code} {g : sv_G} {A : Nat → Prop} {b : Nat} {xs : Nat → Int32} {ty : Nat → Nat} {σ : Nat → Nat → Int} {x mm : Nat} {L : Nat} {i : Int} (T : lz_K p s m meth c g A b L xs) (hL : L ≤ 3072) (hi : 0 ≤ i ∧ i + 6 ≤ (L : Int)) (Z : lz_S A ty σ x mm) (kk : ∀ σ2, lz_S A ty σ2 x mm → lz_V p l e s m below meth c b A 433 29939 (sv_H g ty σ2) 1193 [(0, sv_r b), (1, sv_r x), (2, sv_r mm), (3, sv_i i)] []) : lz_V p l e s m below meth c b A 433 29939 (sv_H g ty σ) 569 [(0, sv_r b), (1, sv_r x), (2, sv_r mm), (3, sv_i i)] [] := by
  obtain ⟨C, hX, hbl, hbA, hAs, hr⟩ := T
  obtain ⟨hok, hTA, hI, hx, hm, hR⟩ := Z
  obtain ⟨y1, hy1, ey1⟩ : ∃ z : Int, (-2147483648 ≤ z ∧ z ≤ 2147483647) ∧ (xs (i + 1).toNat).toInt = z := ⟨_, sv_ioin2 _, rfl⟩
  obtain ⟨y2, hy2, ey2⟩ : ∃ z : Int, (-2147483648 ≤ z ∧ z ≤ 2147483647) ∧ (xs (i + 2).toNat).toInt = z := ⟨_, sv_ioin2 _, rfl⟩
  obtain ⟨y3, hy3, ey3⟩ : ∃ z : Int, (-2147483648 ≤ z ∧ z ≤ 2147483647) ∧ (xs (i + 3).toNat).toInt = z := ⟨_, sv_ioin2 _, rfl⟩
  obtain ⟨y4, hy4, ey4⟩ : ∃ z : Int, (-2147483648 ≤ z ∧ z ≤ 2147483647) ∧ (xs (i + 4).toNat).toInt = z := ⟨_, sv_ioin2 _, rfl⟩
  refine sv_go C.1 C.2.1 [(.aload_n 1, 1), (.aload_n 0, 1), (.iload_n 3, 1), (.iconst 1, 1), (.iadd, 1)] (pc' := 574) (by decide +kernel) rfl (lv' := [(0, sv_r b), (1, sv_r x), (2, sv_r mm), (3, sv_i i)]) (st' := [sv_i (i + 1), sv_r b, sv_r x]) rfl ?_
  refine sv_sld C hX hbl hbA (by omega) (j := (i + 1).toNat) (by decide +kernel) (by omega) (by omega) ?_
  rw [ey1]
  refine sv_go C.1 C.2.1 [(.aload_n 0, 1), (.iload_n 3, 1), (.iconst 2, 1), (.iadd, 1)] (pc' := 579) (by decide +kernel) rfl (lv' := [(0, sv_r b), (1, sv_r x), (2, sv_r mm), (3, sv_i i)]) (st' := [sv_i (i + 2), sv_r b, sv_i y1, sv_r x]) rfl ?_
  refine sv_sld C hX hbl hbA (by omega) (j := (i + 2).toNat) (by decide +kernel) (by omega) (by omega) ?_
  rw [ey2]
  refine sv_go C.1 C.2.1 [(.aload_n 0, 1), (.iload_n 3, 1), (.iconst 3, 1), (.iadd, 1)] (pc' := 584) (by decide +kernel) rfl (lv' := [(0, sv_r b), (1, sv_r x), (2, sv_r mm), (3, sv_i i)]) (st' := [sv_i (i + 3), sv_r b, sv_i y2, sv_i y1, sv_r x]) rfl ?_
  refine sv_sld C hX hbl hbA (by omega) (j := (i + 3).toNat) (by decide +kernel) (by omega) (by omega) ?_
  rw [ey3]
  refine sv_go C.1 C.2.1 [(.aload_n 0, 1), (.iload_n 3, 1), (.iconst 4, 1), (.iadd, 1)] (pc' := 589) (by decide +kernel) rfl (lv' := [(0, sv_r b), (1, sv_r x), (2, sv_r mm), (3, sv_i i)]) (st' := [sv_i (i + 4), sv_r b, sv_i y3, sv_i y2, sv_i y1, sv_r x]) rfl ?_
  refine sv_sld C hX hbl hbA (by omega) (j := (i + 4).toNat) (by decide +kernel) (by omega) (by omega) ?_
  rw [ey4]
  refine sv_cv C (index := 60) (k := 4) (rest := []) (as := [sv_i y1, sv_i y2, sv_i y3, sv_i y4]) (ci := 8) (r := (RX9, TX9, 6)) (by decide +kernel) (sf_X9_wax l g A ty σ hok hTA hI x hx (y1) ⟨by omega, by omega⟩ (y2) ⟨by omega, by omega⟩ (y3) ⟨by omega, by omega⟩ (y4) ⟨by omega, by omega⟩) ⟨lz_co_X9_wax, lz_in_X9, ⟨by decide, by decide, by decide +kernel⟩, Nat.le_of_ble_eq_true rfl, Nat.le_of_ble_eq_true rfl⟩ lz_ml_60 lz_im_X9_wax lz_se_X9_wax (by rw [hx]; rfl) rfl rfl rfl (Nat.le_of_ble_eq_true rfl) ⟨Nat.le_of_ble_eq_true rfl, Nat.le_of_ble_eq_true rfl⟩ (fun r1 σ1 hp1 hk1 => ?_)
  obtain ⟨⟨v1, rfl, hv1⟩, hI1, hF1⟩ := hp1
  refine sv_same (st2 := [sv_i v1]) (lv2 := [(0, sv_r b), (1, sv_r x), (2, sv_r mm), (3, sv_i i)]) rfl rfl ?_
  refine sv_go C.1 C.2.1 [(.pop, 1), (.aload_n 2, 1), (.aload_n 0, 1), (.iload_n 3, 1), (.iconst 1, 1), (.iadd, 1)] (pc' := 599) (by decide +kernel) rfl (lv' := [(0, sv_r b), (1, sv_r x), (2, sv_r mm), (3, sv_i i)]) (st' := [sv_i (i + 1), sv_r b, sv_r mm]) rfl ?_
  refine sv_sld C hX hbl hbA (by omega) (j := (i + 1).toNat) (by decide +kernel) (by omega) (by omega) ?_
  rw [ey1]
  refine sv_go C.1 C.2.1 [(.aload_n 0, 1), (.iload_n 3, 1), (.iconst 2, 1), (.iadd, 1)] (pc' := 604) (by decide +kernel) rfl (lv' := [(0, sv_r b), (1, sv_r x), (2, sv_r mm), (3, sv_i i)]) (st' := [sv_i (i + 2), sv_r b, sv_i y1, sv_r mm]) rfl ?_
  refine sv_sld C hX hbl hbA (by omega) (j := (i + 2).toNat) (by decide +kernel) (by omega) (by omega) ?_
  rw [ey2]
  refine sv_go C.1 C.2.1 [(.aload_n 0, 1), (.iload_n 3, 1), (.iconst 3, 1), (.iadd, 1)] (pc' := 609) (by decide +kernel) rfl (lv' := [(0, sv_r b), (1, sv_r x), (2, sv_r mm), (3, sv_i i)]) (st' := [sv_i (i + 3), sv_r b, sv_i y2, sv_i y1, sv_r mm]) rfl ?_
  refine sv_sld C hX hbl hbA (by omega) (j := (i + 3).toNat) (by decide +kernel) (by omega) (by omega) ?_
  rw [ey3]
  refine sv_go C.1 C.2.1 [(.aload_n 0, 1), (.iload_n 3, 1), (.iconst 4, 1), (.iadd, 1)] (pc' := 614) (by decide +kernel) rfl (lv' := [(0, sv_r b), (1, sv_r x), (2, sv_r mm), (3, sv_i i)]) (st' := [sv_i (i + 4), sv_r b, sv_i y3, sv_i y2, sv_i y1, sv_r mm]) rfl ?_
  refine sv_sld C hX hbl hbA (by omega) (j := (i + 4).toNat) (by decide +kernel) (by omega) (by omega) ?_
  rw [ey4]
  refine sv_cv C (index := 64) (k := 4) (rest := []) (as := [sv_i y1, sv_i y2, sv_i y3, sv_i y4]) (ci := 10) (r := (RX11, TX11, 47)) (by decide +kernel) (sf_X11_wax l g A ty σ1 hk1 hTA hI1 mm hm (y1) ⟨by omega, by omega⟩ (y2) ⟨by omega, by omega⟩ (y3) ⟨by omega, by omega⟩ (y4) ⟨by omega, by omega⟩) ⟨lz_co_X11_wax, lz_in_X11, ⟨by decide, by decide, by decide +kernel⟩, Nat.le_of_ble_eq_true rfl, Nat.le_of_ble_eq_true rfl⟩ lz_ml_64 lz_im_X11_wax lz_se_X11_wax (by rw [hm]; rfl) rfl rfl rfl (Nat.le_of_ble_eq_true rfl) ⟨Nat.le_of_ble_eq_true rfl, Nat.le_of_ble_eq_true rfl⟩ (fun r2 σ2 hp2 hk2 => ?_)
  obtain ⟨⟨v2, rfl, hv2⟩, hI2, hF2⟩ := hp2
  refine sv_same (st2 := [sv_i v2]) (lv2 := [(0, sv_r b), (1, sv_r x), (2, sv_r mm), (3, sv_i i)]) rfl rfl ?_
  refine sv_go C.1 C.2.1 [(.pop, 1)] (pc' := 619) (by decide +kernel) rfl (lv' := [(0, sv_r b), (1, sv_r x), (2, sv_r mm), (3, sv_i i)]) (st' := []) rfl ?_
  refine sv_goto C.1 C.2.1 (off := 574) (by decide +kernel) (tgt := 1193) rfl ?_
  exact kk σ2 ⟨hk2, hTA, hI2, hx, hm, (lz_keep hx hm hF2 (by decide) (by decide) (by decide) (by decide) (by decide) (by decide) (lz_keep hx hm hF1 (by decide) (by decide) (by decide) (by decide) (by decide) (by decide) hR))⟩
set_option maxHeartbeats 4000000 in
set_option maxRecDepth 100000 in
theorem lz_c12 {p : Program} {l : Launch} {e : Env} {s : State} {m : MethodId} {below : List Frame} {meth : Method} {c : Code} {g : sv_G} {A : Nat → Prop} {b : Nat} {xs : Nat → Int32} {ty : Nat → Nat} {σ : Nat → Nat → Int} {x mm : Nat} {L : Nat} {i : Int} (T : lz_K p s m meth c g A b L xs) (hL : L ≤ 3072) (hi : 0 ≤ i ∧ i + 6 ≤ (L : Int)) (Z : lz_S A ty σ x mm) (kk : ∀ σ2, lz_S A ty σ2 x mm → lz_V p l e s m below meth c b A 433 29939 (sv_H g ty σ2) 1193 [(0, sv_r b), (1, sv_r x), (2, sv_r mm), (3, sv_i i)] []) : lz_V p l e s m below meth c b A 433 29939 (sv_H g ty σ) 622 [(0, sv_r b), (1, sv_r x), (2, sv_r mm), (3, sv_i i)] [] := by
  obtain ⟨C, hX, hbl, hbA, hAs, hr⟩ := T
  obtain ⟨hok, hTA, hI, hx, hm, hR⟩ := Z
  obtain ⟨y1, hy1, ey1⟩ : ∃ z : Int, (-2147483648 ≤ z ∧ z ≤ 2147483647) ∧ (xs (i + 1).toNat).toInt = z := ⟨_, sv_ioin2 _, rfl⟩
  obtain ⟨y2, hy2, ey2⟩ : ∃ z : Int, (-2147483648 ≤ z ∧ z ≤ 2147483647) ∧ (xs (i + 2).toNat).toInt = z := ⟨_, sv_ioin2 _, rfl⟩
  obtain ⟨y3, hy3, ey3⟩ : ∃ z : Int, (-2147483648 ≤ z ∧ z ≤ 2147483647) ∧ (xs (i + 3).toNat).toInt = z := ⟨_, sv_ioin2 _, rfl⟩
  obtain ⟨y4, hy4, ey4⟩ : ∃ z : Int, (-2147483648 ≤ z ∧ z ≤ 2147483647) ∧ (xs (i + 4).toNat).toInt = z := ⟨_, sv_ioin2 _, rfl⟩
  refine sv_go C.1 C.2.1 [(.aload_n 1, 1), (.aload_n 0, 1), (.iload_n 3, 1), (.iconst 1, 1), (.iadd, 1)] (pc' := 627) (by decide +kernel) rfl (lv' := [(0, sv_r b), (1, sv_r x), (2, sv_r mm), (3, sv_i i)]) (st' := [sv_i (i + 1), sv_r b, sv_r x]) rfl ?_
  refine sv_sld C hX hbl hbA (by omega) (j := (i + 1).toNat) (by decide +kernel) (by omega) (by omega) ?_
  rw [ey1]
  refine sv_go C.1 C.2.1 [(.aload_n 0, 1), (.iload_n 3, 1), (.iconst 2, 1), (.iadd, 1)] (pc' := 632) (by decide +kernel) rfl (lv' := [(0, sv_r b), (1, sv_r x), (2, sv_r mm), (3, sv_i i)]) (st' := [sv_i (i + 2), sv_r b, sv_i y1, sv_r x]) rfl ?_
  refine sv_sld C hX hbl hbA (by omega) (j := (i + 2).toNat) (by decide +kernel) (by omega) (by omega) ?_
  rw [ey2]
  refine sv_go C.1 C.2.1 [(.aload_n 0, 1), (.iload_n 3, 1), (.iconst 3, 1), (.iadd, 1)] (pc' := 637) (by decide +kernel) rfl (lv' := [(0, sv_r b), (1, sv_r x), (2, sv_r mm), (3, sv_i i)]) (st' := [sv_i (i + 3), sv_r b, sv_i y2, sv_i y1, sv_r x]) rfl ?_
  refine sv_sld C hX hbl hbA (by omega) (j := (i + 3).toNat) (by decide +kernel) (by omega) (by omega) ?_
  rw [ey3]
  refine sv_go C.1 C.2.1 [(.aload_n 0, 1), (.iload_n 3, 1), (.iconst 4, 1), (.iadd, 1)] (pc' := 642) (by decide +kernel) rfl (lv' := [(0, sv_r b), (1, sv_r x), (2, sv_r mm), (3, sv_i i)]) (st' := [sv_i (i + 4), sv_r b, sv_i y3, sv_i y2, sv_i y1, sv_r x]) rfl ?_
  refine sv_sld C hX hbl hbA (by omega) (j := (i + 4).toNat) (by decide +kernel) (by omega) (by omega) ?_
  rw [ey4]
  refine sv_cv C (index := 65) (k := 4) (rest := []) (as := [sv_i y1, sv_i y2, sv_i y3, sv_i y4]) (ci := 8) (r := (RX9, TX9, 6)) (by decide +kernel) (sf_X9_next l g A ty σ hok hTA hI x hx (y1) ⟨by omega, by omega⟩ (y2) ⟨by omega, by omega⟩ (y3) ⟨by omega, by omega⟩ (y4) ⟨by omega, by omega⟩) ⟨lz_co_X9_next, lz_in_X9, ⟨by decide, by decide, by decide +kernel⟩, Nat.le_of_ble_eq_true rfl, Nat.le_of_ble_eq_true rfl⟩ lz_ml_65 lz_im_X9_next lz_se_X9_next (by rw [hx]; rfl) rfl rfl rfl (Nat.le_of_ble_eq_true rfl) ⟨Nat.le_of_ble_eq_true rfl, Nat.le_of_ble_eq_true rfl⟩ (fun r1 σ1 hp1 hk1 => ?_)
  obtain ⟨⟨v1, rfl, hv1⟩, hI1, hF1⟩ := hp1
  refine sv_same (st2 := [sv_i v1]) (lv2 := [(0, sv_r b), (1, sv_r x), (2, sv_r mm), (3, sv_i i)]) rfl rfl ?_
  refine sv_go C.1 C.2.1 [(.pop, 1), (.aload_n 2, 1), (.aload_n 0, 1), (.iload_n 3, 1), (.iconst 1, 1), (.iadd, 1)] (pc' := 652) (by decide +kernel) rfl (lv' := [(0, sv_r b), (1, sv_r x), (2, sv_r mm), (3, sv_i i)]) (st' := [sv_i (i + 1), sv_r b, sv_r mm]) rfl ?_
  refine sv_sld C hX hbl hbA (by omega) (j := (i + 1).toNat) (by decide +kernel) (by omega) (by omega) ?_
  rw [ey1]
  refine sv_go C.1 C.2.1 [(.aload_n 0, 1), (.iload_n 3, 1), (.iconst 2, 1), (.iadd, 1)] (pc' := 657) (by decide +kernel) rfl (lv' := [(0, sv_r b), (1, sv_r x), (2, sv_r mm), (3, sv_i i)]) (st' := [sv_i (i + 2), sv_r b, sv_i y1, sv_r mm]) rfl ?_
  refine sv_sld C hX hbl hbA (by omega) (j := (i + 2).toNat) (by decide +kernel) (by omega) (by omega) ?_
  rw [ey2]
  refine sv_go C.1 C.2.1 [(.aload_n 0, 1), (.iload_n 3, 1), (.iconst 3, 1), (.iadd, 1)] (pc' := 662) (by decide +kernel) rfl (lv' := [(0, sv_r b), (1, sv_r x), (2, sv_r mm), (3, sv_i i)]) (st' := [sv_i (i + 3), sv_r b, sv_i y2, sv_i y1, sv_r mm]) rfl ?_
  refine sv_sld C hX hbl hbA (by omega) (j := (i + 3).toNat) (by decide +kernel) (by omega) (by omega) ?_
  rw [ey3]
  refine sv_go C.1 C.2.1 [(.aload_n 0, 1), (.iload_n 3, 1), (.iconst 4, 1), (.iadd, 1)] (pc' := 667) (by decide +kernel) rfl (lv' := [(0, sv_r b), (1, sv_r x), (2, sv_r mm), (3, sv_i i)]) (st' := [sv_i (i + 4), sv_r b, sv_i y3, sv_i y2, sv_i y1, sv_r mm]) rfl ?_
  refine sv_sld C hX hbl hbA (by omega) (j := (i + 4).toNat) (by decide +kernel) (by omega) (by omega) ?_
  rw [ey4]
  refine sv_cv C (index := 68) (k := 4) (rest := []) (as := [sv_i y1, sv_i y2, sv_i y3, sv_i y4]) (ci := 10) (r := (RX11, TX11, 47)) (by decide +kernel) (sf_X11_next l g A ty σ1 hk1 hTA hI1 mm hm (y1) ⟨by omega, by omega⟩ (y2) ⟨by omega, by omega⟩ (y3) ⟨by omega, by omega⟩ (y4) ⟨by omega, by omega⟩) ⟨lz_co_X11_next, lz_in_X11, ⟨by decide, by decide, by decide +kernel⟩, Nat.le_of_ble_eq_true rfl, Nat.le_of_ble_eq_true rfl⟩ lz_ml_68 lz_im_X11_next lz_se_X11_next (by rw [hm]; rfl) rfl rfl rfl (Nat.le_of_ble_eq_true rfl) ⟨Nat.le_of_ble_eq_true rfl, Nat.le_of_ble_eq_true rfl⟩ (fun r2 σ2 hp2 hk2 => ?_)
  obtain ⟨⟨v2, rfl, hv2⟩, hI2, hF2⟩ := hp2
  refine sv_same (st2 := [sv_i v2]) (lv2 := [(0, sv_r b), (1, sv_r x), (2, sv_r mm), (3, sv_i i)]) rfl rfl ?_
  refine sv_go C.1 C.2.1 [(.pop, 1)] (pc' := 672) (by decide +kernel) rfl (lv' := [(0, sv_r b), (1, sv_r x), (2, sv_r mm), (3, sv_i i)]) (st' := []) rfl ?_
  refine sv_goto C.1 C.2.1 (off := 521) (by decide +kernel) (tgt := 1193) rfl ?_
  exact kk σ2 ⟨hk2, hTA, hI2, hx, hm, (lz_keep hx hm hF2 (by decide) (by decide) (by decide) (by decide) (by decide) (by decide) (lz_keep hx hm hF1 (by decide) (by decide) (by decide) (by decide) (by decide) (by decide) hR))⟩
set_option maxHeartbeats 4000000 in
set_option maxRecDepth 100000 in
theorem lz_c13 {p : Program} {l : Launch} {e : Env} {s : State} {m : MethodId} {below : List Frame} {meth : Method} {c : Code} {g : sv_G} {A : Nat → Prop} {b : Nat} {xs : Nat → Int32} {ty : Nat → Nat} {σ : Nat → Nat → Int} {x mm : Nat} {L : Nat} {i : Int} (T : lz_K p s m meth c g A b L xs) (hL : L ≤ 3072) (hi : 0 ≤ i ∧ i + 6 ≤ (L : Int)) (Z : lz_S A ty σ x mm) (kk : ∀ σ2, lz_S A ty σ2 x mm → lz_V p l e s m below meth c b A 433 29939 (sv_H g ty σ2) 1193 [(0, sv_r b), (1, sv_r x), (2, sv_r mm), (3, sv_i i)] []) : lz_V p l e s m below meth c b A 433 29939 (sv_H g ty σ) 675 [(0, sv_r b), (1, sv_r x), (2, sv_r mm), (3, sv_i i)] [] := by
  obtain ⟨C, hX, hbl, hbA, hAs, hr⟩ := T
  obtain ⟨hok, hTA, hI, hx, hm, hR⟩ := Z
  obtain ⟨y1, hy1, ey1⟩ : ∃ z : Int, (-2147483648 ≤ z ∧ z ≤ 2147483647) ∧ (xs (i + 1).toNat).toInt = z := ⟨_, sv_ioin2 _, rfl⟩
  obtain ⟨y2, hy2, ey2⟩ : ∃ z : Int, (-2147483648 ≤ z ∧ z ≤ 2147483647) ∧ (xs (i + 2).toNat).toInt = z := ⟨_, sv_ioin2 _, rfl⟩
  obtain ⟨y3, hy3, ey3⟩ : ∃ z : Int, (-2147483648 ≤ z ∧ z ≤ 2147483647) ∧ (xs (i + 3).toNat).toInt = z := ⟨_, sv_ioin2 _, rfl⟩
  refine sv_go C.1 C.2.1 [(.aload_n 1, 1), (.aload_n 0, 1), (.iload_n 3, 1), (.iconst 1, 1), (.iadd, 1)] (pc' := 680) (by decide +kernel) rfl (lv' := [(0, sv_r b), (1, sv_r x), (2, sv_r mm), (3, sv_i i)]) (st' := [sv_i (i + 1), sv_r b, sv_r x]) rfl ?_
  refine sv_sld C hX hbl hbA (by omega) (j := (i + 1).toNat) (by decide +kernel) (by omega) (by omega) ?_
  rw [ey1]
  refine sv_go C.1 C.2.1 [(.aload_n 0, 1), (.iload_n 3, 1), (.iconst 2, 1), (.iadd, 1)] (pc' := 685) (by decide +kernel) rfl (lv' := [(0, sv_r b), (1, sv_r x), (2, sv_r mm), (3, sv_i i)]) (st' := [sv_i (i + 2), sv_r b, sv_i y1, sv_r x]) rfl ?_
  refine sv_sld C hX hbl hbA (by omega) (j := (i + 2).toNat) (by decide +kernel) (by omega) (by omega) ?_
  rw [ey2]
  refine sv_go C.1 C.2.1 [(.aload_n 0, 1), (.iload_n 3, 1), (.iconst 3, 1), (.iadd, 1)] (pc' := 690) (by decide +kernel) rfl (lv' := [(0, sv_r b), (1, sv_r x), (2, sv_r mm), (3, sv_i i)]) (st' := [sv_i (i + 3), sv_r b, sv_i y2, sv_i y1, sv_r x]) rfl ?_
  refine sv_sld C hX hbl hbA (by omega) (j := (i + 3).toNat) (by decide +kernel) (by omega) (by omega) ?_
  rw [ey3]
  refine sv_cv C (index := 69) (k := 3) (rest := []) (as := [sv_i y1, sv_i y2, sv_i y3]) (ci := 8) (r := (RX9, TX9, 6)) (by decide +kernel) (sf_X9_unlike l g A ty σ hok hTA hI x hx (y1) ⟨by omega, by omega⟩ (y2) ⟨by omega, by omega⟩ (y3) ⟨by omega, by omega⟩) ⟨lz_co_X9_unlike, lz_in_X9, ⟨by decide, by decide, by decide +kernel⟩, Nat.le_of_ble_eq_true rfl, Nat.le_of_ble_eq_true rfl⟩ lz_ml_69 lz_im_X9_unlike lz_se_X9_unlike (by rw [hx]; rfl) rfl rfl rfl (Nat.le_of_ble_eq_true rfl) ⟨Nat.le_of_ble_eq_true rfl, Nat.le_of_ble_eq_true rfl⟩ (fun r1 σ1 hp1 hk1 => ?_)
  obtain ⟨⟨v1, rfl, hv1⟩, hI1, hF1⟩ := hp1
  refine sv_same (st2 := [sv_i v1]) (lv2 := [(0, sv_r b), (1, sv_r x), (2, sv_r mm), (3, sv_i i)]) rfl rfl ?_
  refine sv_go C.1 C.2.1 [(.pop, 1), (.aload_n 2, 1), (.aload_n 0, 1), (.iload_n 3, 1), (.iconst 1, 1), (.iadd, 1)] (pc' := 700) (by decide +kernel) rfl (lv' := [(0, sv_r b), (1, sv_r x), (2, sv_r mm), (3, sv_i i)]) (st' := [sv_i (i + 1), sv_r b, sv_r mm]) rfl ?_
  refine sv_sld C hX hbl hbA (by omega) (j := (i + 1).toNat) (by decide +kernel) (by omega) (by omega) ?_
  rw [ey1]
  refine sv_go C.1 C.2.1 [(.aload_n 0, 1), (.iload_n 3, 1), (.iconst 2, 1), (.iadd, 1)] (pc' := 705) (by decide +kernel) rfl (lv' := [(0, sv_r b), (1, sv_r x), (2, sv_r mm), (3, sv_i i)]) (st' := [sv_i (i + 2), sv_r b, sv_i y1, sv_r mm]) rfl ?_
  refine sv_sld C hX hbl hbA (by omega) (j := (i + 2).toNat) (by decide +kernel) (by omega) (by omega) ?_
  rw [ey2]
  refine sv_go C.1 C.2.1 [(.aload_n 0, 1), (.iload_n 3, 1), (.iconst 3, 1), (.iadd, 1)] (pc' := 710) (by decide +kernel) rfl (lv' := [(0, sv_r b), (1, sv_r x), (2, sv_r mm), (3, sv_i i)]) (st' := [sv_i (i + 3), sv_r b, sv_i y2, sv_i y1, sv_r mm]) rfl ?_
  refine sv_sld C hX hbl hbA (by omega) (j := (i + 3).toNat) (by decide +kernel) (by omega) (by omega) ?_
  rw [ey3]
  refine sv_cv C (index := 72) (k := 3) (rest := []) (as := [sv_i y1, sv_i y2, sv_i y3]) (ci := 10) (r := (RX11, TX11, 47)) (by decide +kernel) (sf_X11_unlike l g A ty σ1 hk1 hTA hI1 mm hm (y1) ⟨by omega, by omega⟩ (y2) ⟨by omega, by omega⟩ (y3) ⟨by omega, by omega⟩) ⟨lz_co_X11_unlike, lz_in_X11, ⟨by decide, by decide, by decide +kernel⟩, Nat.le_of_ble_eq_true rfl, Nat.le_of_ble_eq_true rfl⟩ lz_ml_72 lz_im_X11_unlike lz_se_X11_unlike (by rw [hm]; rfl) rfl rfl rfl (Nat.le_of_ble_eq_true rfl) ⟨Nat.le_of_ble_eq_true rfl, Nat.le_of_ble_eq_true rfl⟩ (fun r2 σ2 hp2 hk2 => ?_)
  obtain ⟨⟨v2, rfl, hv2⟩, hI2, hF2⟩ := hp2
  refine sv_same (st2 := [sv_i v2]) (lv2 := [(0, sv_r b), (1, sv_r x), (2, sv_r mm), (3, sv_i i)]) rfl rfl ?_
  refine sv_go C.1 C.2.1 [(.pop, 1)] (pc' := 715) (by decide +kernel) rfl (lv' := [(0, sv_r b), (1, sv_r x), (2, sv_r mm), (3, sv_i i)]) (st' := []) rfl ?_
  refine sv_goto C.1 C.2.1 (off := 478) (by decide +kernel) (tgt := 1193) rfl ?_
  exact kk σ2 ⟨hk2, hTA, hI2, hx, hm, (lz_keep hx hm hF2 (by decide) (by decide) (by decide) (by decide) (by decide) (by decide) (lz_keep hx hm hF1 (by decide) (by decide) (by decide) (by decide) (by decide) (by decide) hR))⟩
set_option maxHeartbeats 4000000 in
set_option maxRecDepth 100000 in
theorem lz_c14 {p : Program} {l : Launch} {e : Env} {s : State} {m : MethodId} {below : List Frame} {meth : Method} {c : Code} {g : sv_G} {A : Nat → Prop} {b : Nat} {xs : Nat → Int32} {ty : Nat → Nat} {σ : Nat → Nat → Int} {x mm : Nat} {L : Nat} {i : Int} (T : lz_K p s m meth c g A b L xs) (hL : L ≤ 3072) (hi : 0 ≤ i ∧ i + 6 ≤ (L : Int)) (Z : lz_S A ty σ x mm) (kk : ∀ σ2, lz_S A ty σ2 x mm → lz_V p l e s m below meth c b A 433 29939 (sv_H g ty σ2) 1193 [(0, sv_r b), (1, sv_r x), (2, sv_r mm), (3, sv_i i)] []) : lz_V p l e s m below meth c b A 433 29939 (sv_H g ty σ) 718 [(0, sv_r b), (1, sv_r x), (2, sv_r mm), (3, sv_i i)] [] := by
  obtain ⟨C, hX, hbl, hbA, hAs, hr⟩ := T
  obtain ⟨hok, hTA, hI, hx, hm, hR⟩ := Z
  obtain ⟨y1, hy1, ey1⟩ : ∃ z : Int, (-2147483648 ≤ z ∧ z ≤ 2147483647) ∧ (xs (i + 1).toNat).toInt = z := ⟨_, sv_ioin2 _, rfl⟩
  obtain ⟨y2, hy2, ey2⟩ : ∃ z : Int, (-2147483648 ≤ z ∧ z ≤ 2147483647) ∧ (xs (i + 2).toNat).toInt = z := ⟨_, sv_ioin2 _, rfl⟩
  obtain ⟨y3, hy3, ey3⟩ : ∃ z : Int, (-2147483648 ≤ z ∧ z ≤ 2147483647) ∧ (xs (i + 3).toNat).toInt = z := ⟨_, sv_ioin2 _, rfl⟩
  refine sv_go C.1 C.2.1 [(.aload_n 1, 1), (.aload_n 0, 1), (.iload_n 3, 1), (.iconst 1, 1), (.iadd, 1)] (pc' := 723) (by decide +kernel) rfl (lv' := [(0, sv_r b), (1, sv_r x), (2, sv_r mm), (3, sv_i i)]) (st' := [sv_i (i + 1), sv_r b, sv_r x]) rfl ?_
  refine sv_sld C hX hbl hbA (by omega) (j := (i + 1).toNat) (by decide +kernel) (by omega) (by omega) ?_
  rw [ey1]
  refine sv_go C.1 C.2.1 [(.aload_n 0, 1), (.iload_n 3, 1), (.iconst 2, 1), (.iadd, 1)] (pc' := 728) (by decide +kernel) rfl (lv' := [(0, sv_r b), (1, sv_r x), (2, sv_r mm), (3, sv_i i)]) (st' := [sv_i (i + 2), sv_r b, sv_i y1, sv_r x]) rfl ?_
  refine sv_sld C hX hbl hbA (by omega) (j := (i + 2).toNat) (by decide +kernel) (by omega) (by omega) ?_
  rw [ey2]
  refine sv_go C.1 C.2.1 [(.aload_n 0, 1), (.iload_n 3, 1), (.iconst 3, 1), (.iadd, 1)] (pc' := 733) (by decide +kernel) rfl (lv' := [(0, sv_r b), (1, sv_r x), (2, sv_r mm), (3, sv_i i)]) (st' := [sv_i (i + 3), sv_r b, sv_i y2, sv_i y1, sv_r x]) rfl ?_
  refine sv_sld C hX hbl hbA (by omega) (j := (i + 3).toNat) (by decide +kernel) (by omega) (by omega) ?_
  rw [ey3]
  refine sv_if C.1 C.2.1 (cnd := .eq) (off := 7) (by decide +kernel) (tgt := 741) rfl ⟨by omega, by omega⟩ (fun h0 => ?_) (fun h0 => ?_)
  · skip
    refine sv_go C.1 C.2.1 [(.iconst 0, 1)] (pc' := 742) (by decide +kernel) rfl (lv' := [(0, sv_r b), (1, sv_r x), (2, sv_r mm), (3, sv_i i)]) (st' := [sv_i 0, sv_i y2, sv_i y1, sv_r x]) rfl ?_
    refine sv_cv C (index := 73) (k := 3) (rest := []) (as := [sv_i y1, sv_i y2, sv_i 0]) (ci := 8) (r := (RX9, TX9, 6)) (by decide +kernel) (sf_X9_quarrel l g A ty σ hok hTA hI x hx (y1) ⟨by omega, by omega⟩ (y2) ⟨by omega, by omega⟩ (0) ⟨by omega, by omega⟩) ⟨lz_co_X9_quarrel, lz_in_X9, ⟨by decide, by decide, by decide +kernel⟩, Nat.le_of_ble_eq_true rfl, Nat.le_of_ble_eq_true rfl⟩ lz_ml_73 lz_im_X9_quarrel lz_se_X9_quarrel (by rw [hx]; rfl) rfl rfl rfl (Nat.le_of_ble_eq_true rfl) ⟨Nat.le_of_ble_eq_true rfl, Nat.le_of_ble_eq_true rfl⟩ (fun r1 σ1 hp1 hk1 => ?_)
    obtain ⟨⟨v1, rfl, hv1⟩, hI1, hF1⟩ := hp1
    refine sv_same (st2 := [sv_i v1]) (lv2 := [(0, sv_r b), (1, sv_r x), (2, sv_r mm), (3, sv_i i)]) rfl rfl ?_
    refine sv_go C.1 C.2.1 [(.pop, 1), (.aload_n 2, 1), (.aload_n 0, 1), (.iload_n 3, 1), (.iconst 1, 1), (.iadd, 1)] (pc' := 751) (by decide +kernel) rfl (lv' := [(0, sv_r b), (1, sv_r x), (2, sv_r mm), (3, sv_i i)]) (st' := [sv_i (i + 1), sv_r b, sv_r mm]) rfl ?_
    refine sv_sld C hX hbl hbA (by omega) (j := (i + 1).toNat) (by decide +kernel) (by omega) (by omega) ?_
    rw [ey1]
    refine sv_go C.1 C.2.1 [(.aload_n 0, 1), (.iload_n 3, 1), (.iconst 2, 1), (.iadd, 1)] (pc' := 756) (by decide +kernel) rfl (lv' := [(0, sv_r b), (1, sv_r x), (2, sv_r mm), (3, sv_i i)]) (st' := [sv_i (i + 2), sv_r b, sv_i y1, sv_r mm]) rfl ?_
    refine sv_sld C hX hbl hbA (by omega) (j := (i + 2).toNat) (by decide +kernel) (by omega) (by omega) ?_
    rw [ey2]
    refine sv_go C.1 C.2.1 [(.aload_n 0, 1), (.iload_n 3, 1), (.iconst 3, 1), (.iadd, 1)] (pc' := 761) (by decide +kernel) rfl (lv' := [(0, sv_r b), (1, sv_r x), (2, sv_r mm), (3, sv_i i)]) (st' := [sv_i (i + 3), sv_r b, sv_i y2, sv_i y1, sv_r mm]) rfl ?_
    refine sv_sld C hX hbl hbA (by omega) (j := (i + 3).toNat) (by decide +kernel) (by omega) (by omega) ?_
    rw [ey3]
    refine sv_if C.1 C.2.1 (cnd := .eq) (off := 7) (by decide +kernel) (tgt := 769) rfl ⟨by omega, by omega⟩ (fun _ => ?_) (fun h1 => absurd h0 h1)
    refine sv_go C.1 C.2.1 [(.iconst 0, 1)] (pc' := 770) (by decide +kernel) rfl (lv' := [(0, sv_r b), (1, sv_r x), (2, sv_r mm), (3, sv_i i)]) (st' := [sv_i 0, sv_i y2, sv_i y1, sv_r mm]) rfl ?_
    refine sv_cv C (index := 77) (k := 3) (rest := []) (as := [sv_i y1, sv_i y2, sv_i 0]) (ci := 10) (r := (RX11, TX11, 47)) (by decide +kernel) (sf_X11_quarrel l g A ty σ1 hk1 hTA hI1 mm hm (y1) ⟨by omega, by omega⟩ (y2) ⟨by omega, by omega⟩ (0) ⟨by omega, by omega⟩) ⟨lz_co_X11_quarrel, lz_in_X11, ⟨by decide, by decide, by decide +kernel⟩, Nat.le_of_ble_eq_true rfl, Nat.le_of_ble_eq_true rfl⟩ lz_ml_77 lz_im_X11_quarrel lz_se_X11_quarrel (by rw [hm]; rfl) rfl rfl rfl (Nat.le_of_ble_eq_true rfl) ⟨Nat.le_of_ble_eq_true rfl, Nat.le_of_ble_eq_true rfl⟩ (fun r2 σ2 hp2 hk2 => ?_)
    obtain ⟨⟨v2, rfl, hv2⟩, hI2, hF2⟩ := hp2
    refine sv_same (st2 := [sv_i v2]) (lv2 := [(0, sv_r b), (1, sv_r x), (2, sv_r mm), (3, sv_i i)]) rfl rfl ?_
    refine sv_go C.1 C.2.1 [(.pop, 1)] (pc' := 774) (by decide +kernel) rfl (lv' := [(0, sv_r b), (1, sv_r x), (2, sv_r mm), (3, sv_i i)]) (st' := []) rfl ?_
    refine sv_goto C.1 C.2.1 (off := 419) (by decide +kernel) (tgt := 1193) rfl ?_
    exact kk σ2 ⟨hk2, hTA, hI2, hx, hm, (lz_keep hx hm hF2 (by decide) (by decide) (by decide) (by decide) (by decide) (by decide) (lz_keep hx hm hF1 (by decide) (by decide) (by decide) (by decide) (by decide) (by decide) hR))⟩
  · skip
    refine sv_go C.1 C.2.1 [(.iconst 1, 1)] (pc' := 738) (by decide +kernel) rfl (lv' := [(0, sv_r b), (1, sv_r x), (2, sv_r mm), (3, sv_i i)]) (st' := [sv_i 1, sv_i y2, sv_i y1, sv_r x]) rfl ?_
    refine sv_goto C.1 C.2.1 (off := 4) (by decide +kernel) (tgt := 742) rfl ?_
    refine sv_cv C (index := 73) (k := 3) (rest := []) (as := [sv_i y1, sv_i y2, sv_i 1]) (ci := 8) (r := (RX9, TX9, 6)) (by decide +kernel) (sf_X9_quarrel l g A ty σ hok hTA hI x hx (y1) ⟨by omega, by omega⟩ (y2) ⟨by omega, by omega⟩ (1) ⟨by omega, by omega⟩) ⟨lz_co_X9_quarrel, lz_in_X9, ⟨by decide, by decide, by decide +kernel⟩, Nat.le_of_ble_eq_true rfl, Nat.le_of_ble_eq_true rfl⟩ lz_ml_73 lz_im_X9_quarrel lz_se_X9_quarrel (by rw [hx]; rfl) rfl rfl rfl (Nat.le_of_ble_eq_true rfl) ⟨Nat.le_of_ble_eq_true rfl, Nat.le_of_ble_eq_true rfl⟩ (fun r1 σ1 hp1 hk1 => ?_)
    obtain ⟨⟨v1, rfl, hv1⟩, hI1, hF1⟩ := hp1
    refine sv_same (st2 := [sv_i v1]) (lv2 := [(0, sv_r b), (1, sv_r x), (2, sv_r mm), (3, sv_i i)]) rfl rfl ?_
    refine sv_go C.1 C.2.1 [(.pop, 1), (.aload_n 2, 1), (.aload_n 0, 1), (.iload_n 3, 1), (.iconst 1, 1), (.iadd, 1)] (pc' := 751) (by decide +kernel) rfl (lv' := [(0, sv_r b), (1, sv_r x), (2, sv_r mm), (3, sv_i i)]) (st' := [sv_i (i + 1), sv_r b, sv_r mm]) rfl ?_
    refine sv_sld C hX hbl hbA (by omega) (j := (i + 1).toNat) (by decide +kernel) (by omega) (by omega) ?_
    rw [ey1]
    refine sv_go C.1 C.2.1 [(.aload_n 0, 1), (.iload_n 3, 1), (.iconst 2, 1), (.iadd, 1)] (pc' := 756) (by decide +kernel) rfl (lv' := [(0, sv_r b), (1, sv_r x), (2, sv_r mm), (3, sv_i i)]) (st' := [sv_i (i + 2), sv_r b, sv_i y1, sv_r mm]) rfl ?_
    refine sv_sld C hX hbl hbA (by omega) (j := (i + 2).toNat) (by decide +kernel) (by omega) (by omega) ?_
    rw [ey2]
    refine sv_go C.1 C.2.1 [(.aload_n 0, 1), (.iload_n 3, 1), (.iconst 3, 1), (.iadd, 1)] (pc' := 761) (by decide +kernel) rfl (lv' := [(0, sv_r b), (1, sv_r x), (2, sv_r mm), (3, sv_i i)]) (st' := [sv_i (i + 3), sv_r b, sv_i y2, sv_i y1, sv_r mm]) rfl ?_
    refine sv_sld C hX hbl hbA (by omega) (j := (i + 3).toNat) (by decide +kernel) (by omega) (by omega) ?_
    rw [ey3]
    refine sv_if C.1 C.2.1 (cnd := .eq) (off := 7) (by decide +kernel) (tgt := 769) rfl ⟨by omega, by omega⟩ (fun h1 => absurd h1 h0) (fun _ => ?_)
    refine sv_go C.1 C.2.1 [(.iconst 1, 1)] (pc' := 766) (by decide +kernel) rfl (lv' := [(0, sv_r b), (1, sv_r x), (2, sv_r mm), (3, sv_i i)]) (st' := [sv_i 1, sv_i y2, sv_i y1, sv_r mm]) rfl ?_
    refine sv_goto C.1 C.2.1 (off := 4) (by decide +kernel) (tgt := 770) rfl ?_
    refine sv_cv C (index := 77) (k := 3) (rest := []) (as := [sv_i y1, sv_i y2, sv_i 1]) (ci := 10) (r := (RX11, TX11, 47)) (by decide +kernel) (sf_X11_quarrel l g A ty σ1 hk1 hTA hI1 mm hm (y1) ⟨by omega, by omega⟩ (y2) ⟨by omega, by omega⟩ (1) ⟨by omega, by omega⟩) ⟨lz_co_X11_quarrel, lz_in_X11, ⟨by decide, by decide, by decide +kernel⟩, Nat.le_of_ble_eq_true rfl, Nat.le_of_ble_eq_true rfl⟩ lz_ml_77 lz_im_X11_quarrel lz_se_X11_quarrel (by rw [hm]; rfl) rfl rfl rfl (Nat.le_of_ble_eq_true rfl) ⟨Nat.le_of_ble_eq_true rfl, Nat.le_of_ble_eq_true rfl⟩ (fun r2 σ2 hp2 hk2 => ?_)
    obtain ⟨⟨v2, rfl, hv2⟩, hI2, hF2⟩ := hp2
    refine sv_same (st2 := [sv_i v2]) (lv2 := [(0, sv_r b), (1, sv_r x), (2, sv_r mm), (3, sv_i i)]) rfl rfl ?_
    refine sv_go C.1 C.2.1 [(.pop, 1)] (pc' := 774) (by decide +kernel) rfl (lv' := [(0, sv_r b), (1, sv_r x), (2, sv_r mm), (3, sv_i i)]) (st' := []) rfl ?_
    refine sv_goto C.1 C.2.1 (off := 419) (by decide +kernel) (tgt := 1193) rfl ?_
    exact kk σ2 ⟨hk2, hTA, hI2, hx, hm, (lz_keep hx hm hF2 (by decide) (by decide) (by decide) (by decide) (by decide) (by decide) (lz_keep hx hm hF1 (by decide) (by decide) (by decide) (by decide) (by decide) (by decide) hR))⟩
set_option maxHeartbeats 4000000 in
set_option maxRecDepth 100000 in
theorem lz_c15 {p : Program} {l : Launch} {e : Env} {s : State} {m : MethodId} {below : List Frame} {meth : Method} {c : Code} {g : sv_G} {A : Nat → Prop} {b : Nat} {xs : Nat → Int32} {ty : Nat → Nat} {σ : Nat → Nat → Int} {x mm : Nat} {L : Nat} {i : Int} (T : lz_K p s m meth c g A b L xs) (hL : L ≤ 3072) (hi : 0 ≤ i ∧ i + 6 ≤ (L : Int)) (Z : lz_S A ty σ x mm) (kk : ∀ σ2, lz_S A ty σ2 x mm → lz_V p l e s m below meth c b A 433 29939 (sv_H g ty σ2) 1193 [(0, sv_r b), (1, sv_r x), (2, sv_r mm), (3, sv_i i)] []) : lz_V p l e s m below meth c b A 433 29939 (sv_H g ty σ) 777 [(0, sv_r b), (1, sv_r x), (2, sv_r mm), (3, sv_i i)] [] := by
  obtain ⟨C, hX, hbl, hbA, hAs, hr⟩ := T
  obtain ⟨hok, hTA, hI, hx, hm, hR⟩ := Z
  obtain ⟨y1, hy1, ey1⟩ : ∃ z : Int, (-2147483648 ≤ z ∧ z ≤ 2147483647) ∧ (xs (i + 1).toNat).toInt = z := ⟨_, sv_ioin2 _, rfl⟩
  obtain ⟨y2, hy2, ey2⟩ : ∃ z : Int, (-2147483648 ≤ z ∧ z ≤ 2147483647) ∧ (xs (i + 2).toNat).toInt = z := ⟨_, sv_ioin2 _, rfl⟩
  obtain ⟨y3, hy3, ey3⟩ : ∃ z : Int, (-2147483648 ≤ z ∧ z ≤ 2147483647) ∧ (xs (i + 3).toNat).toInt = z := ⟨_, sv_ioin2 _, rfl⟩
  obtain ⟨y4, hy4, ey4⟩ : ∃ z : Int, (-2147483648 ≤ z ∧ z ≤ 2147483647) ∧ (xs (i + 4).toNat).toInt = z := ⟨_, sv_ioin2 _, rfl⟩
  obtain ⟨y5, hy5, ey5⟩ : ∃ z : Int, (-2147483648 ≤ z ∧ z ≤ 2147483647) ∧ (xs (i + 5).toNat).toInt = z := ⟨_, sv_ioin2 _, rfl⟩
  refine sv_go C.1 C.2.1 [(.aload_n 1, 1), (.aload_n 0, 1), (.iload_n 3, 1), (.iconst 1, 1), (.iadd, 1)] (pc' := 782) (by decide +kernel) rfl (lv' := [(0, sv_r b), (1, sv_r x), (2, sv_r mm), (3, sv_i i)]) (st' := [sv_i (i + 1), sv_r b, sv_r x]) rfl ?_
  refine sv_sld C hX hbl hbA (by omega) (j := (i + 1).toNat) (by decide +kernel) (by omega) (by omega) ?_
  rw [ey1]
  refine sv_go C.1 C.2.1 [(.aload_n 0, 1), (.iload_n 3, 1), (.iconst 2, 1), (.iadd, 1)] (pc' := 787) (by decide +kernel) rfl (lv' := [(0, sv_r b), (1, sv_r x), (2, sv_r mm), (3, sv_i i)]) (st' := [sv_i (i + 2), sv_r b, sv_i y1, sv_r x]) rfl ?_
  refine sv_sld C hX hbl hbA (by omega) (j := (i + 2).toNat) (by decide +kernel) (by omega) (by omega) ?_
  rw [ey2]
  refine sv_go C.1 C.2.1 [(.aload_n 0, 1), (.iload_n 3, 1), (.iconst 3, 1), (.iadd, 1)] (pc' := 792) (by decide +kernel) rfl (lv' := [(0, sv_r b), (1, sv_r x), (2, sv_r mm), (3, sv_i i)]) (st' := [sv_i (i + 3), sv_r b, sv_i y2, sv_i y1, sv_r x]) rfl ?_
  refine sv_sld C hX hbl hbA (by omega) (j := (i + 3).toNat) (by decide +kernel) (by omega) (by omega) ?_
  rw [ey3]
  refine sv_go C.1 C.2.1 [(.aload_n 0, 1), (.iload_n 3, 1), (.iconst 4, 1), (.iadd, 1)] (pc' := 797) (by decide +kernel) rfl (lv' := [(0, sv_r b), (1, sv_r x), (2, sv_r mm), (3, sv_i i)]) (st' := [sv_i (i + 4), sv_r b, sv_i y3, sv_i y2, sv_i y1, sv_r x]) rfl ?_
  refine sv_sld C hX hbl hbA (by omega) (j := (i + 4).toNat) (by decide +kernel) (by omega) (by omega) ?_
  rw [ey4]
  refine sv_go C.1 C.2.1 [(.aload_n 0, 1), (.iload_n 3, 1), (.iconst 5, 1), (.iadd, 1)] (pc' := 802) (by decide +kernel) rfl (lv' := [(0, sv_r b), (1, sv_r x), (2, sv_r mm), (3, sv_i i)]) (st' := [sv_i (i + 5), sv_r b, sv_i y4, sv_i y3, sv_i y2, sv_i y1, sv_r x]) rfl ?_
  refine sv_sld C hX hbl hbA (by omega) (j := (i + 5).toNat) (by decide +kernel) (by omega) (by omega) ?_
  rw [ey5]
  refine sv_cv C (index := 78) (k := 5) (rest := []) (as := [sv_i y1, sv_i y2, sv_i y3, sv_i y4, sv_i y5]) (ci := 8) (r := (RX9, TX9, 6)) (by decide +kernel) (sf_X9_rota l g A ty σ hok hTA hI x hx (y1) ⟨by omega, by omega⟩ (y2) ⟨by omega, by omega⟩ (y3) ⟨by omega, by omega⟩ (y4) ⟨by omega, by omega⟩ (y5) ⟨by omega, by omega⟩) ⟨lz_co_X9_rota, lz_in_X9, ⟨by decide, by decide, by decide +kernel⟩, Nat.le_of_ble_eq_true rfl, Nat.le_of_ble_eq_true rfl⟩ lz_ml_78 lz_im_X9_rota lz_se_X9_rota (by rw [hx]; rfl) rfl rfl rfl (Nat.le_of_ble_eq_true rfl) ⟨Nat.le_of_ble_eq_true rfl, Nat.le_of_ble_eq_true rfl⟩ (fun r1 σ1 hp1 hk1 => ?_)
  obtain ⟨⟨v1, rfl, hv1⟩, hI1, hF1⟩ := hp1
  refine sv_same (st2 := [sv_i v1]) (lv2 := [(0, sv_r b), (1, sv_r x), (2, sv_r mm), (3, sv_i i)]) rfl rfl ?_
  refine sv_go C.1 C.2.1 [(.pop, 1), (.aload_n 2, 1), (.aload_n 0, 1), (.iload_n 3, 1), (.iconst 1, 1), (.iadd, 1)] (pc' := 812) (by decide +kernel) rfl (lv' := [(0, sv_r b), (1, sv_r x), (2, sv_r mm), (3, sv_i i)]) (st' := [sv_i (i + 1), sv_r b, sv_r mm]) rfl ?_
  refine sv_sld C hX hbl hbA (by omega) (j := (i + 1).toNat) (by decide +kernel) (by omega) (by omega) ?_
  rw [ey1]
  refine sv_go C.1 C.2.1 [(.aload_n 0, 1), (.iload_n 3, 1), (.iconst 2, 1), (.iadd, 1)] (pc' := 817) (by decide +kernel) rfl (lv' := [(0, sv_r b), (1, sv_r x), (2, sv_r mm), (3, sv_i i)]) (st' := [sv_i (i + 2), sv_r b, sv_i y1, sv_r mm]) rfl ?_
  refine sv_sld C hX hbl hbA (by omega) (j := (i + 2).toNat) (by decide +kernel) (by omega) (by omega) ?_
  rw [ey2]
  refine sv_go C.1 C.2.1 [(.aload_n 0, 1), (.iload_n 3, 1), (.iconst 3, 1), (.iadd, 1)] (pc' := 822) (by decide +kernel) rfl (lv' := [(0, sv_r b), (1, sv_r x), (2, sv_r mm), (3, sv_i i)]) (st' := [sv_i (i + 3), sv_r b, sv_i y2, sv_i y1, sv_r mm]) rfl ?_
  refine sv_sld C hX hbl hbA (by omega) (j := (i + 3).toNat) (by decide +kernel) (by omega) (by omega) ?_
  rw [ey3]
  refine sv_go C.1 C.2.1 [(.aload_n 0, 1), (.iload_n 3, 1), (.iconst 4, 1), (.iadd, 1)] (pc' := 827) (by decide +kernel) rfl (lv' := [(0, sv_r b), (1, sv_r x), (2, sv_r mm), (3, sv_i i)]) (st' := [sv_i (i + 4), sv_r b, sv_i y3, sv_i y2, sv_i y1, sv_r mm]) rfl ?_
  refine sv_sld C hX hbl hbA (by omega) (j := (i + 4).toNat) (by decide +kernel) (by omega) (by omega) ?_
  rw [ey4]
  refine sv_go C.1 C.2.1 [(.aload_n 0, 1), (.iload_n 3, 1), (.iconst 5, 1), (.iadd, 1)] (pc' := 832) (by decide +kernel) rfl (lv' := [(0, sv_r b), (1, sv_r x), (2, sv_r mm), (3, sv_i i)]) (st' := [sv_i (i + 5), sv_r b, sv_i y4, sv_i y3, sv_i y2, sv_i y1, sv_r mm]) rfl ?_
  refine sv_sld C hX hbl hbA (by omega) (j := (i + 5).toNat) (by decide +kernel) (by omega) (by omega) ?_
  rw [ey5]
  refine sv_cv C (index := 81) (k := 5) (rest := []) (as := [sv_i y1, sv_i y2, sv_i y3, sv_i y4, sv_i y5]) (ci := 10) (r := (RX11, TX11, 47)) (by decide +kernel) (sf_X11_rota l g A ty σ1 hk1 hTA hI1 mm hm (y1) ⟨by omega, by omega⟩ (y2) ⟨by omega, by omega⟩ (y3) ⟨by omega, by omega⟩ (y4) ⟨by omega, by omega⟩ (y5) ⟨by omega, by omega⟩) ⟨lz_co_X11_rota, lz_in_X11, ⟨by decide, by decide, by decide +kernel⟩, Nat.le_of_ble_eq_true rfl, Nat.le_of_ble_eq_true rfl⟩ lz_ml_81 lz_im_X11_rota lz_se_X11_rota (by rw [hm]; rfl) rfl rfl rfl (Nat.le_of_ble_eq_true rfl) ⟨Nat.le_of_ble_eq_true rfl, Nat.le_of_ble_eq_true rfl⟩ (fun r2 σ2 hp2 hk2 => ?_)
  obtain ⟨⟨v2, rfl, hv2⟩, hI2, hF2⟩ := hp2
  refine sv_same (st2 := [sv_i v2]) (lv2 := [(0, sv_r b), (1, sv_r x), (2, sv_r mm), (3, sv_i i)]) rfl rfl ?_
  refine sv_go C.1 C.2.1 [(.pop, 1)] (pc' := 837) (by decide +kernel) rfl (lv' := [(0, sv_r b), (1, sv_r x), (2, sv_r mm), (3, sv_i i)]) (st' := []) rfl ?_
  refine sv_goto C.1 C.2.1 (off := 356) (by decide +kernel) (tgt := 1193) rfl ?_
  exact kk σ2 ⟨hk2, hTA, hI2, hx, hm, (lz_keep hx hm hF2 (by decide) (by decide) (by decide) (by decide) (by decide) (by decide) (lz_keep hx hm hF1 (by decide) (by decide) (by decide) (by decide) (by decide) (by decide) hR))⟩
set_option maxHeartbeats 4000000 in
set_option maxRecDepth 100000 in
theorem lz_c16 {p : Program} {l : Launch} {e : Env} {s : State} {m : MethodId} {below : List Frame} {meth : Method} {c : Code} {g : sv_G} {A : Nat → Prop} {b : Nat} {xs : Nat → Int32} {ty : Nat → Nat} {σ : Nat → Nat → Int} {x mm : Nat} {L : Nat} {i : Int} (T : lz_K p s m meth c g A b L xs) (hL : L ≤ 3072) (hi : 0 ≤ i ∧ i + 6 ≤ (L : Int)) (Z : lz_S A ty σ x mm) (kk : ∀ σ2, lz_S A ty σ2 x mm → lz_V p l e s m below meth c b A 433 29939 (sv_H g ty σ2) 1193 [(0, sv_r b), (1, sv_r x), (2, sv_r mm), (3, sv_i i)] []) : lz_V p l e s m below meth c b A 433 29939 (sv_H g ty σ) 840 [(0, sv_r b), (1, sv_r x), (2, sv_r mm), (3, sv_i i)] [] := by
  obtain ⟨C, hX, hbl, hbA, hAs, hr⟩ := T
  obtain ⟨hok, hTA, hI, hx, hm, hR⟩ := Z
  obtain ⟨y1, hy1, ey1⟩ : ∃ z : Int, (-2147483648 ≤ z ∧ z ≤ 2147483647) ∧ (xs (i + 1).toNat).toInt = z := ⟨_, sv_ioin2 _, rfl⟩
  obtain ⟨y2, hy2, ey2⟩ : ∃ z : Int, (-2147483648 ≤ z ∧ z ≤ 2147483647) ∧ (xs (i + 2).toNat).toInt = z := ⟨_, sv_ioin2 _, rfl⟩
  refine sv_go C.1 C.2.1 [(.aload_n 1, 1), (.aload_n 0, 1), (.iload_n 3, 1), (.iconst 1, 1), (.iadd, 1)] (pc' := 845) (by decide +kernel) rfl (lv' := [(0, sv_r b), (1, sv_r x), (2, sv_r mm), (3, sv_i i)]) (st' := [sv_i (i + 1), sv_r b, sv_r x]) rfl ?_
  refine sv_sld C hX hbl hbA (by omega) (j := (i + 1).toNat) (by decide +kernel) (by omega) (by omega) ?_
  rw [ey1]
  refine sv_go C.1 C.2.1 [(.aload_n 0, 1), (.iload_n 3, 1), (.iconst 2, 1), (.iadd, 1)] (pc' := 850) (by decide +kernel) rfl (lv' := [(0, sv_r b), (1, sv_r x), (2, sv_r mm), (3, sv_i i)]) (st' := [sv_i (i + 2), sv_r b, sv_i y1, sv_r x]) rfl ?_
  refine sv_sld C hX hbl hbA (by omega) (j := (i + 2).toNat) (by decide +kernel) (by omega) (by omega) ?_
  rw [ey2]
  refine sv_cv C (index := 82) (k := 2) (rest := []) (as := [sv_i y1, sv_i y2]) (ci := 8) (r := (RX9, TX9, 6)) (by decide +kernel) (sf_X9_turn l g A ty σ hok hTA hI x hx (y1) ⟨by omega, by omega⟩ (y2) ⟨by omega, by omega⟩) ⟨lz_co_X9_turn, lz_in_X9, ⟨by decide, by decide, by decide +kernel⟩, Nat.le_of_ble_eq_true rfl, Nat.le_of_ble_eq_true rfl⟩ lz_ml_82 lz_im_X9_turn lz_se_X9_turn (by rw [hx]; rfl) rfl rfl rfl (Nat.le_of_ble_eq_true rfl) ⟨Nat.le_of_ble_eq_true rfl, Nat.le_of_ble_eq_true rfl⟩ (fun r1 σ1 hp1 hk1 => ?_)
  obtain ⟨hs1, ⟨v1, rfl, hv1⟩⟩ := hp1
  subst hs1
  refine sv_same (st2 := [sv_i v1]) (lv2 := [(0, sv_r b), (1, sv_r x), (2, sv_r mm), (3, sv_i i)]) rfl rfl ?_
  refine sv_go C.1 C.2.1 [(.pop, 1), (.aload_n 2, 1), (.aload_n 0, 1), (.iload_n 3, 1), (.iconst 1, 1), (.iadd, 1)] (pc' := 860) (by decide +kernel) rfl (lv' := [(0, sv_r b), (1, sv_r x), (2, sv_r mm), (3, sv_i i)]) (st' := [sv_i (i + 1), sv_r b, sv_r mm]) rfl ?_
  refine sv_sld C hX hbl hbA (by omega) (j := (i + 1).toNat) (by decide +kernel) (by omega) (by omega) ?_
  rw [ey1]
  refine sv_go C.1 C.2.1 [(.aload_n 0, 1), (.iload_n 3, 1), (.iconst 2, 1), (.iadd, 1)] (pc' := 865) (by decide +kernel) rfl (lv' := [(0, sv_r b), (1, sv_r x), (2, sv_r mm), (3, sv_i i)]) (st' := [sv_i (i + 2), sv_r b, sv_i y1, sv_r mm]) rfl ?_
  refine sv_sld C hX hbl hbA (by omega) (j := (i + 2).toNat) (by decide +kernel) (by omega) (by omega) ?_
  rw [ey2]
  refine sv_cv C (index := 86) (k := 2) (rest := []) (as := [sv_i y1, sv_i y2]) (ci := 10) (r := (RX11, TX11, 47)) (by decide +kernel) (sf_X11_turn l g A ty σ hk1 hTA hI mm hm (y1) ⟨by omega, by omega⟩ (y2) ⟨by omega, by omega⟩) ⟨lz_co_X11_turn, lz_in_X11, ⟨by decide, by decide, by decide +kernel⟩, Nat.le_of_ble_eq_true rfl, Nat.le_of_ble_eq_true rfl⟩ lz_ml_86 lz_im_X11_turn lz_se_X11_turn (by rw [hm]; rfl) rfl rfl rfl (Nat.le_of_ble_eq_true rfl) ⟨Nat.le_of_ble_eq_true rfl, Nat.le_of_ble_eq_true rfl⟩ (fun r2 σ2 hp2 hk2 => ?_)
  obtain ⟨hs2, ⟨v2, rfl, hv2⟩⟩ := hp2
  subst hs2
  refine sv_same (st2 := [sv_i v2]) (lv2 := [(0, sv_r b), (1, sv_r x), (2, sv_r mm), (3, sv_i i)]) rfl rfl ?_
  refine sv_go C.1 C.2.1 [(.pop, 1)] (pc' := 870) (by decide +kernel) rfl (lv' := [(0, sv_r b), (1, sv_r x), (2, sv_r mm), (3, sv_i i)]) (st' := []) rfl ?_
  refine sv_goto C.1 C.2.1 (off := 323) (by decide +kernel) (tgt := 1193) rfl ?_
  exact kk σ ⟨hk2, hTA, hI, hx, hm, hR⟩
set_option maxHeartbeats 4000000 in
set_option maxRecDepth 100000 in
theorem lz_c17 {p : Program} {l : Launch} {e : Env} {s : State} {m : MethodId} {below : List Frame} {meth : Method} {c : Code} {g : sv_G} {A : Nat → Prop} {b : Nat} {xs : Nat → Int32} {ty : Nat → Nat} {σ : Nat → Nat → Int} {x mm : Nat} {L : Nat} {i : Int} (T : lz_K p s m meth c g A b L xs) (hL : L ≤ 3072) (hi : 0 ≤ i ∧ i + 6 ≤ (L : Int)) (Z : lz_S A ty σ x mm) (kk : ∀ σ2, lz_S A ty σ2 x mm → lz_V p l e s m below meth c b A 433 29939 (sv_H g ty σ2) 1193 [(0, sv_r b), (1, sv_r x), (2, sv_r mm), (3, sv_i i)] []) : lz_V p l e s m below meth c b A 433 29939 (sv_H g ty σ) 873 [(0, sv_r b), (1, sv_r x), (2, sv_r mm), (3, sv_i i)] [] := by
  obtain ⟨C, hX, hbl, hbA, hAs, hr⟩ := T
  obtain ⟨hok, hTA, hI, hx, hm, hR⟩ := Z
  obtain ⟨y1, hy1, ey1⟩ : ∃ z : Int, (-2147483648 ≤ z ∧ z ≤ 2147483647) ∧ (xs (i + 1).toNat).toInt = z := ⟨_, sv_ioin2 _, rfl⟩
  refine sv_go C.1 C.2.1 [(.aload_n 1, 1), (.aload_n 0, 1), (.iload_n 3, 1), (.iconst 1, 1), (.iadd, 1)] (pc' := 878) (by decide +kernel) rfl (lv' := [(0, sv_r b), (1, sv_r x), (2, sv_r mm), (3, sv_i i)]) (st' := [sv_i (i + 1), sv_r b, sv_r x]) rfl ?_
  refine sv_sld C hX hbl hbA (by omega) (j := (i + 1).toNat) (by decide +kernel) (by omega) (by omega) ?_
  rw [ey1]
  refine sv_cv C (index := 87) (k := 1) (rest := []) (as := [sv_i y1]) (ci := 8) (r := (RX9, TX9, 6)) (by decide +kernel) (sf_X9_carried l g A ty σ hok hTA hI x hx (y1) ⟨by omega, by omega⟩) ⟨lz_co_X9_carried, lz_in_X9, ⟨by decide, by decide, by decide +kernel⟩, Nat.le_of_ble_eq_true rfl, Nat.le_of_ble_eq_true rfl⟩ lz_ml_87 lz_im_X9_carried lz_se_X9_carried (by rw [hx]; rfl) rfl rfl rfl (Nat.le_of_ble_eq_true rfl) ⟨Nat.le_of_ble_eq_true rfl, Nat.le_of_ble_eq_true rfl⟩ (fun r1 σ1 hp1 hk1 => ?_)
  obtain ⟨hs1, ⟨v1, rfl, hv1⟩⟩ := hp1
  subst hs1
  refine sv_same (st2 := [sv_i v1]) (lv2 := [(0, sv_r b), (1, sv_r x), (2, sv_r mm), (3, sv_i i)]) rfl rfl ?_
  refine sv_go C.1 C.2.1 [(.pop, 1), (.aload_n 2, 1), (.aload_n 0, 1), (.iload_n 3, 1), (.iconst 1, 1), (.iadd, 1)] (pc' := 888) (by decide +kernel) rfl (lv' := [(0, sv_r b), (1, sv_r x), (2, sv_r mm), (3, sv_i i)]) (st' := [sv_i (i + 1), sv_r b, sv_r mm]) rfl ?_
  refine sv_sld C hX hbl hbA (by omega) (j := (i + 1).toNat) (by decide +kernel) (by omega) (by omega) ?_
  rw [ey1]
  refine sv_cv C (index := 90) (k := 1) (rest := []) (as := [sv_i y1]) (ci := 10) (r := (RX11, TX11, 47)) (by decide +kernel) (sf_X11_carried l g A ty σ hk1 hTA hI mm hm (y1) ⟨by omega, by omega⟩) ⟨lz_co_X11_carried, lz_in_X11, ⟨by decide, by decide, by decide +kernel⟩, Nat.le_of_ble_eq_true rfl, Nat.le_of_ble_eq_true rfl⟩ lz_ml_90 lz_im_X11_carried lz_se_X11_carried (by rw [hm]; rfl) rfl rfl rfl (Nat.le_of_ble_eq_true rfl) ⟨Nat.le_of_ble_eq_true rfl, Nat.le_of_ble_eq_true rfl⟩ (fun r2 σ2 hp2 hk2 => ?_)
  obtain ⟨hs2, ⟨v2, rfl, hv2⟩⟩ := hp2
  subst hs2
  refine sv_same (st2 := [sv_i v2]) (lv2 := [(0, sv_r b), (1, sv_r x), (2, sv_r mm), (3, sv_i i)]) rfl rfl ?_
  refine sv_go C.1 C.2.1 [(.pop, 1)] (pc' := 893) (by decide +kernel) rfl (lv' := [(0, sv_r b), (1, sv_r x), (2, sv_r mm), (3, sv_i i)]) (st' := []) rfl ?_
  refine sv_goto C.1 C.2.1 (off := 300) (by decide +kernel) (tgt := 1193) rfl ?_
  exact kk σ ⟨hk2, hTA, hI, hx, hm, hR⟩
set_option maxHeartbeats 4000000 in
set_option maxRecDepth 100000 in
theorem lz_c18 {p : Program} {l : Launch} {e : Env} {s : State} {m : MethodId} {below : List Frame} {meth : Method} {c : Code} {g : sv_G} {A : Nat → Prop} {b : Nat} {xs : Nat → Int32} {ty : Nat → Nat} {σ : Nat → Nat → Int} {x mm : Nat} {L : Nat} {i : Int} (T : lz_K p s m meth c g A b L xs) (hL : L ≤ 3072) (hi : 0 ≤ i ∧ i + 6 ≤ (L : Int)) (Z : lz_S A ty σ x mm) (kk : ∀ σ2, lz_S A ty σ2 x mm → lz_V p l e s m below meth c b A 433 29939 (sv_H g ty σ2) 1193 [(0, sv_r b), (1, sv_r x), (2, sv_r mm), (3, sv_i i)] []) : lz_V p l e s m below meth c b A 433 29939 (sv_H g ty σ) 896 [(0, sv_r b), (1, sv_r x), (2, sv_r mm), (3, sv_i i)] [] := by
  obtain ⟨C, hX, hbl, hbA, hAs, hr⟩ := T
  obtain ⟨hok, hTA, hI, hx, hm, hR⟩ := Z
  obtain ⟨y1, hy1, ey1⟩ : ∃ z : Int, (-2147483648 ≤ z ∧ z ≤ 2147483647) ∧ (xs (i + 1).toNat).toInt = z := ⟨_, sv_ioin2 _, rfl⟩
  obtain ⟨y2, hy2, ey2⟩ : ∃ z : Int, (-2147483648 ≤ z ∧ z ≤ 2147483647) ∧ (xs (i + 2).toNat).toInt = z := ⟨_, sv_ioin2 _, rfl⟩
  obtain ⟨y3, hy3, ey3⟩ : ∃ z : Int, (-2147483648 ≤ z ∧ z ≤ 2147483647) ∧ (xs (i + 3).toNat).toInt = z := ⟨_, sv_ioin2 _, rfl⟩
  refine sv_go C.1 C.2.1 [(.aload_n 1, 1), (.aload_n 0, 1), (.iload_n 3, 1), (.iconst 1, 1), (.iadd, 1)] (pc' := 901) (by decide +kernel) rfl (lv' := [(0, sv_r b), (1, sv_r x), (2, sv_r mm), (3, sv_i i)]) (st' := [sv_i (i + 1), sv_r b, sv_r x]) rfl ?_
  refine sv_sld C hX hbl hbA (by omega) (j := (i + 1).toNat) (by decide +kernel) (by omega) (by omega) ?_
  rw [ey1]
  refine sv_go C.1 C.2.1 [(.aload_n 0, 1), (.iload_n 3, 1), (.iconst 2, 1), (.iadd, 1)] (pc' := 906) (by decide +kernel) rfl (lv' := [(0, sv_r b), (1, sv_r x), (2, sv_r mm), (3, sv_i i)]) (st' := [sv_i (i + 2), sv_r b, sv_i y1, sv_r x]) rfl ?_
  refine sv_sld C hX hbl hbA (by omega) (j := (i + 2).toNat) (by decide +kernel) (by omega) (by omega) ?_
  rw [ey2]
  refine sv_go C.1 C.2.1 [(.aload_n 0, 1), (.iload_n 3, 1), (.iconst 3, 1), (.iadd, 1)] (pc' := 911) (by decide +kernel) rfl (lv' := [(0, sv_r b), (1, sv_r x), (2, sv_r mm), (3, sv_i i)]) (st' := [sv_i (i + 3), sv_r b, sv_i y2, sv_i y1, sv_r x]) rfl ?_
  refine sv_sld C hX hbl hbA (by omega) (j := (i + 3).toNat) (by decide +kernel) (by omega) (by omega) ?_
  rw [ey3]
  obtain ⟨tq, bq, mq, sq, s1, s2, s3, s4, s5, hn, hD, hst, hv⟩ := id hR
  obtain ⟨⟨et, kt⟩, ⟨eb, kb⟩, ⟨em, km⟩, ⟨es0, ks0⟩, ⟨es1, ks1⟩, ⟨es2, ks2⟩, ⟨es3, ks3⟩, ⟨es4, ks4⟩, es5, ks5⟩ := id hn
  refine sv_cv C (index := 91) (k := 3) (rest := []) (as := [sv_i y1, sv_i y2, sv_i y3]) (ci := 8) (r := (RX9, TX9, 6)) (by decide +kernel) (ct_X9_street l g A ty σ hok hTA hI x hx (y1) ⟨by omega, by omega⟩ (y2) ⟨by omega, by omega⟩ (y3) ⟨by omega, by omega⟩ tq kt mq km et em) ⟨lz_co_X9_street, lz_in_X9, ⟨by decide, by decide, by decide +kernel⟩, Nat.le_of_ble_eq_true rfl, Nat.le_of_ble_eq_true rfl⟩ lz_ml_91 lz_im_X9_street lz_se_X9_street (by rw [hx]; rfl) rfl rfl rfl (Nat.le_of_ble_eq_true rfl) ⟨Nat.le_of_ble_eq_true rfl, Nat.le_of_ble_eq_true rfl⟩ (fun r1 σ1 hp1 hk1 => ?_)
  obtain ⟨⟨v1, rfl, hv1, im1_0⟩, hI1, hF1⟩ := hp1
  refine sv_same (st2 := [sv_i v1]) (lv2 := [(0, sv_r b), (1, sv_r x), (2, sv_r mm), (3, sv_i i)]) rfl rfl ?_
  refine sv_go C.1 C.2.1 [(.aload_n 2, 1), (.aload_n 0, 1), (.iload_n 3, 1), (.iconst 1, 1), (.iadd, 1)] (pc' := 920) (by decide +kernel) rfl (lv' := [(0, sv_r b), (1, sv_r x), (2, sv_r mm), (3, sv_i i)]) (st' := [sv_i (i + 1), sv_r b, sv_r mm, sv_i v1]) rfl ?_
  refine sv_sld C hX hbl hbA (by omega) (j := (i + 1).toNat) (by decide +kernel) (by omega) (by omega) ?_
  rw [ey1]
  refine sv_go C.1 C.2.1 [(.aload_n 0, 1), (.iload_n 3, 1), (.iconst 2, 1), (.iadd, 1)] (pc' := 925) (by decide +kernel) rfl (lv' := [(0, sv_r b), (1, sv_r x), (2, sv_r mm), (3, sv_i i)]) (st' := [sv_i (i + 2), sv_r b, sv_i y1, sv_r mm, sv_i v1]) rfl ?_
  refine sv_sld C hX hbl hbA (by omega) (j := (i + 2).toNat) (by decide +kernel) (by omega) (by omega) ?_
  rw [ey2]
  refine sv_go C.1 C.2.1 [(.aload_n 0, 1), (.iload_n 3, 1), (.iconst 3, 1), (.iadd, 1)] (pc' := 930) (by decide +kernel) rfl (lv' := [(0, sv_r b), (1, sv_r x), (2, sv_r mm), (3, sv_i i)]) (st' := [sv_i (i + 3), sv_r b, sv_i y2, sv_i y1, sv_r mm, sv_i v1]) rfl ?_
  refine sv_sld C hX hbl hbA (by omega) (j := (i + 3).toNat) (by decide +kernel) (by omega) (by omega) ?_
  rw [ey3]
  have hn1 := zn_of hx hm hF1 (by decide) (by decide) hn
  clear et eb em es0 es1 es2 es3 es4 es5
  obtain ⟨⟨et, kt⟩, ⟨eb, kb⟩, ⟨em, km⟩, ⟨es0, ks0⟩, ⟨es1, ks1⟩, ⟨es2, ks2⟩, ⟨es3, ks3⟩, ⟨es4, ks4⟩, es5, ks5⟩ := id hn1
  refine sv_cv C (index := 94) (k := 3) (rest := [sv_i v1]) (as := [sv_i y1, sv_i y2, sv_i y3]) (ci := 10) (r := (RX11, TX11, 47)) (by decide +kernel) (ct_X11_street l g A ty σ1 hk1 hTA hI1 mm hm (y1) ⟨by omega, by omega⟩ (y2) ⟨by omega, by omega⟩ (y3) ⟨by omega, by omega⟩ sq ks0 es0) ⟨lz_co_X11_street, lz_in_X11, ⟨by decide, by decide, by decide +kernel⟩, Nat.le_of_ble_eq_true rfl, Nat.le_of_ble_eq_true rfl⟩ lz_ml_94 lz_im_X11_street lz_se_X11_street (by rw [hm]; rfl) rfl rfl rfl (Nat.le_of_ble_eq_true rfl) ⟨Nat.le_of_ble_eq_true rfl, Nat.le_of_ble_eq_true rfl⟩ (fun r2 σ2 hp2 hk2 => ?_)
  obtain ⟨⟨v2, rfl, hv2, im2_0⟩, hI2, hF2⟩ := hp2
  have hst2 := lz_str hx hm hn hD hst hv hF1 hF2 (by decide) (by decide) (by decide) (by decide) (im1_0 (by omega) (by omega)) (im2_0 (by omega) (by omega))
  refine sv_same (st2 := [sv_i v2, sv_i v1]) (lv2 := [(0, sv_r b), (1, sv_r x), (2, sv_r mm), (3, sv_i i)]) rfl rfl ?_
  refine sv_icmp_t C.1 C.2.1 (cnd := .eq) (off := 259) (by decide +kernel) (tgt := 1193) rfl ⟨by omega, by omega⟩ ⟨by omega, by omega⟩ (show v1 = v2 from hst2.1) ?_
  exact kk σ2 ⟨hk2, hTA, hI2, hx, hm, hst2.2⟩
set_option maxHeartbeats 4000000 in
set_option maxRecDepth 100000 in
theorem lz_c19 {p : Program} {l : Launch} {e : Env} {s : State} {m : MethodId} {below : List Frame} {meth : Method} {c : Code} {g : sv_G} {A : Nat → Prop} {b : Nat} {xs : Nat → Int32} {ty : Nat → Nat} {σ : Nat → Nat → Int} {x mm : Nat} {L : Nat} {i : Int} (T : lz_K p s m meth c g A b L xs) (hL : L ≤ 3072) (hi : 0 ≤ i ∧ i + 6 ≤ (L : Int)) (Z : lz_S A ty σ x mm) (kk : ∀ σ2, lz_S A ty σ2 x mm → lz_V p l e s m below meth c b A 433 29939 (sv_H g ty σ2) 1193 [(0, sv_r b), (1, sv_r x), (2, sv_r mm), (3, sv_i i)] []) : lz_V p l e s m below meth c b A 433 29939 (sv_H g ty σ) 939 [(0, sv_r b), (1, sv_r x), (2, sv_r mm), (3, sv_i i)] [] := by
  obtain ⟨C, hX, hbl, hbA, hAs, hr⟩ := T
  obtain ⟨hok, hTA, hI, hx, hm, hR⟩ := Z
  obtain ⟨y1, hy1, ey1⟩ : ∃ z : Int, (-2147483648 ≤ z ∧ z ≤ 2147483647) ∧ (xs (i + 1).toNat).toInt = z := ⟨_, sv_ioin2 _, rfl⟩
  obtain ⟨y2, hy2, ey2⟩ : ∃ z : Int, (-2147483648 ≤ z ∧ z ≤ 2147483647) ∧ (xs (i + 2).toNat).toInt = z := ⟨_, sv_ioin2 _, rfl⟩
  obtain ⟨y3, hy3, ey3⟩ : ∃ z : Int, (-2147483648 ≤ z ∧ z ≤ 2147483647) ∧ (xs (i + 3).toNat).toInt = z := ⟨_, sv_ioin2 _, rfl⟩
  obtain ⟨y4, hy4, ey4⟩ : ∃ z : Int, (-2147483648 ≤ z ∧ z ≤ 2147483647) ∧ (xs (i + 4).toNat).toInt = z := ⟨_, sv_ioin2 _, rfl⟩
  refine sv_go C.1 C.2.1 [(.aload_n 1, 1), (.aload_n 0, 1), (.iload_n 3, 1), (.iconst 1, 1), (.iadd, 1)] (pc' := 944) (by decide +kernel) rfl (lv' := [(0, sv_r b), (1, sv_r x), (2, sv_r mm), (3, sv_i i)]) (st' := [sv_i (i + 1), sv_r b, sv_r x]) rfl ?_
  refine sv_sld C hX hbl hbA (by omega) (j := (i + 1).toNat) (by decide +kernel) (by omega) (by omega) ?_
  rw [ey1]
  refine sv_go C.1 C.2.1 [(.aload_n 0, 1), (.iload_n 3, 1), (.iconst 2, 1), (.iadd, 1)] (pc' := 949) (by decide +kernel) rfl (lv' := [(0, sv_r b), (1, sv_r x), (2, sv_r mm), (3, sv_i i)]) (st' := [sv_i (i + 2), sv_r b, sv_i y1, sv_r x]) rfl ?_
  refine sv_sld C hX hbl hbA (by omega) (j := (i + 2).toNat) (by decide +kernel) (by omega) (by omega) ?_
  rw [ey2]
  refine sv_go C.1 C.2.1 [(.aload_n 0, 1), (.iload_n 3, 1), (.iconst 3, 1), (.iadd, 1)] (pc' := 954) (by decide +kernel) rfl (lv' := [(0, sv_r b), (1, sv_r x), (2, sv_r mm), (3, sv_i i)]) (st' := [sv_i (i + 3), sv_r b, sv_i y2, sv_i y1, sv_r x]) rfl ?_
  refine sv_sld C hX hbl hbA (by omega) (j := (i + 3).toNat) (by decide +kernel) (by omega) (by omega) ?_
  rw [ey3]
  refine sv_go C.1 C.2.1 [(.aload_n 0, 1), (.iload_n 3, 1), (.iconst 4, 1), (.iadd, 1)] (pc' := 959) (by decide +kernel) rfl (lv' := [(0, sv_r b), (1, sv_r x), (2, sv_r mm), (3, sv_i i)]) (st' := [sv_i (i + 4), sv_r b, sv_i y3, sv_i y2, sv_i y1, sv_r x]) rfl ?_
  refine sv_sld C hX hbl hbA (by omega) (j := (i + 4).toNat) (by decide +kernel) (by omega) (by omega) ?_
  rw [ey4]
  obtain ⟨tq, bq, mq, sq, s1, s2, s3, s4, s5, hn, hD, hst, hv⟩ := id hR
  obtain ⟨⟨et, kt⟩, ⟨eb, kb⟩, ⟨em, km⟩, ⟨es0, ks0⟩, ⟨es1, ks1⟩, ⟨es2, ks2⟩, ⟨es3, ks3⟩, ⟨es4, ks4⟩, es5, ks5⟩ := id hn
  refine sv_cv C (index := 95) (k := 4) (rest := []) (as := [sv_i y1, sv_i y2, sv_i y3, sv_i y4]) (ci := 8) (r := (RX9, TX9, 6)) (by decide +kernel) (ct_X9_begin l g A ty σ hok hTA hI x hx (y1) ⟨by omega, by omega⟩ (y2) ⟨by omega, by omega⟩ (y3) ⟨by omega, by omega⟩ (y4) ⟨by omega, by omega⟩ tq kt bq kb et eb) ⟨lz_co_X9_begin, lz_in_X9, ⟨by decide, by decide, by decide +kernel⟩, Nat.le_of_ble_eq_true rfl, Nat.le_of_ble_eq_true rfl⟩ lz_ml_95 lz_im_X9_begin lz_se_X9_begin (by rw [hx]; rfl) rfl rfl rfl (Nat.le_of_ble_eq_true rfl) ⟨Nat.le_of_ble_eq_true rfl, Nat.le_of_ble_eq_true rfl⟩ (fun r1 σ1 hp1 hk1 => ?_)
  obtain ⟨⟨v1, rfl, hv1, im1_0⟩, hI1, hF1⟩ := hp1
  refine sv_same (st2 := [sv_i v1]) (lv2 := [(0, sv_r b), (1, sv_r x), (2, sv_r mm), (3, sv_i i)]) rfl rfl ?_
  refine sv_go C.1 C.2.1 [(.pop, 1), (.aload_n 2, 1), (.aload_n 0, 1), (.iload_n 3, 1), (.iconst 1, 1), (.iadd, 1)] (pc' := 969) (by decide +kernel) rfl (lv' := [(0, sv_r b), (1, sv_r x), (2, sv_r mm), (3, sv_i i)]) (st' := [sv_i (i + 1), sv_r b, sv_r mm]) rfl ?_
  refine sv_sld C hX hbl hbA (by omega) (j := (i + 1).toNat) (by decide +kernel) (by omega) (by omega) ?_
  rw [ey1]
  refine sv_go C.1 C.2.1 [(.aload_n 0, 1), (.iload_n 3, 1), (.iconst 2, 1), (.iadd, 1)] (pc' := 974) (by decide +kernel) rfl (lv' := [(0, sv_r b), (1, sv_r x), (2, sv_r mm), (3, sv_i i)]) (st' := [sv_i (i + 2), sv_r b, sv_i y1, sv_r mm]) rfl ?_
  refine sv_sld C hX hbl hbA (by omega) (j := (i + 2).toNat) (by decide +kernel) (by omega) (by omega) ?_
  rw [ey2]
  refine sv_go C.1 C.2.1 [(.aload_n 0, 1), (.iload_n 3, 1), (.iconst 3, 1), (.iadd, 1)] (pc' := 979) (by decide +kernel) rfl (lv' := [(0, sv_r b), (1, sv_r x), (2, sv_r mm), (3, sv_i i)]) (st' := [sv_i (i + 3), sv_r b, sv_i y2, sv_i y1, sv_r mm]) rfl ?_
  refine sv_sld C hX hbl hbA (by omega) (j := (i + 3).toNat) (by decide +kernel) (by omega) (by omega) ?_
  rw [ey3]
  refine sv_go C.1 C.2.1 [(.aload_n 0, 1), (.iload_n 3, 1), (.iconst 4, 1), (.iadd, 1)] (pc' := 984) (by decide +kernel) rfl (lv' := [(0, sv_r b), (1, sv_r x), (2, sv_r mm), (3, sv_i i)]) (st' := [sv_i (i + 4), sv_r b, sv_i y3, sv_i y2, sv_i y1, sv_r mm]) rfl ?_
  refine sv_sld C hX hbl hbA (by omega) (j := (i + 4).toNat) (by decide +kernel) (by omega) (by omega) ?_
  rw [ey4]
  have hn1 := zn_of hx hm hF1 (by decide) (by decide) hn
  clear et eb em es0 es1 es2 es3 es4 es5
  obtain ⟨⟨et, kt⟩, ⟨eb, kb⟩, ⟨em, km⟩, ⟨es0, ks0⟩, ⟨es1, ks1⟩, ⟨es2, ks2⟩, ⟨es3, ks3⟩, ⟨es4, ks4⟩, es5, ks5⟩ := id hn1
  refine sv_cv C (index := 98) (k := 4) (rest := []) (as := [sv_i y1, sv_i y2, sv_i y3, sv_i y4]) (ci := 10) (r := (RX11, TX11, 47)) (by decide +kernel) (ct_X11_begin l g A ty σ1 hk1 hTA hI1 mm hm (y1) ⟨by omega, by omega⟩ (y2) ⟨by omega, by omega⟩ (y3) ⟨by omega, by omega⟩ (y4) ⟨by omega, by omega⟩ s1 ks1 s2 ks2 s3 ks3 s4 ks4 s5 ks5 es1 es2 es3 es4 es5) ⟨lz_co_X11_begin, lz_in_X11, ⟨by decide, by decide, by decide +kernel⟩, Nat.le_of_ble_eq_true rfl, Nat.le_of_ble_eq_true rfl⟩ lz_ml_98 lz_im_X11_begin lz_se_X11_begin (by rw [hm]; rfl) rfl rfl rfl (Nat.le_of_ble_eq_true rfl) ⟨Nat.le_of_ble_eq_true rfl, Nat.le_of_ble_eq_true rfl⟩ (fun r2 σ2 hp2 hk2 => ?_)
  obtain ⟨⟨v2, rfl, hv2, im2_0⟩, hI2, hF2⟩ := hp2
  have hst2 := lz_begin hx hm hn hD hst hv (sv_ofx.rf.tr hF1 (by decide) (by decide)) (sv_ofx.rf.tr hF2 (by decide) (by decide)) (im1_0 (by omega) (by omega)) (im2_0 (by omega) (by omega))
  refine sv_same (st2 := [sv_i v2]) (lv2 := [(0, sv_r b), (1, sv_r x), (2, sv_r mm), (3, sv_i i)]) rfl rfl ?_
  refine sv_go C.1 C.2.1 [(.pop, 1)] (pc' := 989) (by decide +kernel) rfl (lv' := [(0, sv_r b), (1, sv_r x), (2, sv_r mm), (3, sv_i i)]) (st' := []) rfl ?_
  refine sv_goto C.1 C.2.1 (off := 204) (by decide +kernel) (tgt := 1193) rfl ?_
  exact kk σ2 ⟨hk2, hTA, hI2, hx, hm, hst2.2⟩
set_option maxHeartbeats 4000000 in
set_option maxRecDepth 100000 in
theorem lz_c20 {p : Program} {l : Launch} {e : Env} {s : State} {m : MethodId} {below : List Frame} {meth : Method} {c : Code} {g : sv_G} {A : Nat → Prop} {b : Nat} {xs : Nat → Int32} {ty : Nat → Nat} {σ : Nat → Nat → Int} {x mm : Nat} {L : Nat} {i : Int} (T : lz_K p s m meth c g A b L xs) (hL : L ≤ 3072) (hi : 0 ≤ i ∧ i + 6 ≤ (L : Int)) (Z : lz_S A ty σ x mm) (kk : ∀ σ2, lz_S A ty σ2 x mm → lz_V p l e s m below meth c b A 433 29939 (sv_H g ty σ2) 1193 [(0, sv_r b), (1, sv_r x), (2, sv_r mm), (3, sv_i i)] []) : lz_V p l e s m below meth c b A 433 29939 (sv_H g ty σ) 992 [(0, sv_r b), (1, sv_r x), (2, sv_r mm), (3, sv_i i)] [] := by
  obtain ⟨C, hX, hbl, hbA, hAs, hr⟩ := T
  obtain ⟨hok, hTA, hI, hx, hm, hR⟩ := Z
  obtain ⟨y1, hy1, ey1⟩ : ∃ z : Int, (-2147483648 ≤ z ∧ z ≤ 2147483647) ∧ (xs (i + 1).toNat).toInt = z := ⟨_, sv_ioin2 _, rfl⟩
  obtain ⟨y2, hy2, ey2⟩ : ∃ z : Int, (-2147483648 ≤ z ∧ z ≤ 2147483647) ∧ (xs (i + 2).toNat).toInt = z := ⟨_, sv_ioin2 _, rfl⟩
  refine sv_go C.1 C.2.1 [(.aload_n 1, 1), (.aload_n 0, 1), (.iload_n 3, 1), (.iconst 1, 1), (.iadd, 1)] (pc' := 997) (by decide +kernel) rfl (lv' := [(0, sv_r b), (1, sv_r x), (2, sv_r mm), (3, sv_i i)]) (st' := [sv_i (i + 1), sv_r b, sv_r x]) rfl ?_
  refine sv_sld C hX hbl hbA (by omega) (j := (i + 1).toNat) (by decide +kernel) (by omega) (by omega) ?_
  rw [ey1]
  refine sv_go C.1 C.2.1 [(.aload_n 0, 1), (.iload_n 3, 1), (.iconst 2, 1), (.iadd, 1)] (pc' := 1002) (by decide +kernel) rfl (lv' := [(0, sv_r b), (1, sv_r x), (2, sv_r mm), (3, sv_i i)]) (st' := [sv_i (i + 2), sv_r b, sv_i y1, sv_r x]) rfl ?_
  refine sv_sld C hX hbl hbA (by omega) (j := (i + 2).toNat) (by decide +kernel) (by omega) (by omega) ?_
  rw [ey2]
  obtain ⟨tq, bq, mq, sq, s1, s2, s3, s4, s5, hn, hD, hst, hv⟩ := id hR
  obtain ⟨⟨et, kt⟩, ⟨eb, kb⟩, ⟨em, km⟩, ⟨es0, ks0⟩, ⟨es1, ks1⟩, ⟨es2, ks2⟩, ⟨es3, ks3⟩, ⟨es4, ks4⟩, es5, ks5⟩ := id hn
  refine sv_cv C (index := 99) (k := 2) (rest := []) (as := [sv_i y1, sv_i y2]) (ci := 8) (r := (RX9, TX9, 6)) (by decide +kernel) (ct_X9_goes l g A ty σ hok hTA hI x hx (y1) ⟨by omega, by omega⟩ (y2) ⟨by omega, by omega⟩ tq kt bq kb mq km et eb em) ⟨lz_co_X9_goes, lz_in_X9, ⟨by decide, by decide, by decide +kernel⟩, Nat.le_of_ble_eq_true rfl, Nat.le_of_ble_eq_true rfl⟩ lz_ml_99 lz_im_X9_goes lz_se_X9_goes (by rw [hx]; rfl) rfl rfl rfl (Nat.le_of_ble_eq_true rfl) ⟨Nat.le_of_ble_eq_true rfl, Nat.le_of_ble_eq_true rfl⟩ (fun r1 σ1 hp1 hk1 => ?_)
  obtain ⟨⟨v1, rfl, hv1, im1_0⟩, hI1, hF1⟩ := hp1
  refine sv_same (st2 := [sv_i v1]) (lv2 := [(0, sv_r b), (1, sv_r x), (2, sv_r mm), (3, sv_i i)]) rfl rfl ?_
  refine sv_go C.1 C.2.1 [(.pop, 1), (.aload_n 2, 1), (.aload_n 0, 1), (.iload_n 3, 1), (.iconst 1, 1), (.iadd, 1)] (pc' := 1012) (by decide +kernel) rfl (lv' := [(0, sv_r b), (1, sv_r x), (2, sv_r mm), (3, sv_i i)]) (st' := [sv_i (i + 1), sv_r b, sv_r mm]) rfl ?_
  refine sv_sld C hX hbl hbA (by omega) (j := (i + 1).toNat) (by decide +kernel) (by omega) (by omega) ?_
  rw [ey1]
  refine sv_go C.1 C.2.1 [(.aload_n 0, 1), (.iload_n 3, 1), (.iconst 2, 1), (.iadd, 1)] (pc' := 1017) (by decide +kernel) rfl (lv' := [(0, sv_r b), (1, sv_r x), (2, sv_r mm), (3, sv_i i)]) (st' := [sv_i (i + 2), sv_r b, sv_i y1, sv_r mm]) rfl ?_
  refine sv_sld C hX hbl hbA (by omega) (j := (i + 2).toNat) (by decide +kernel) (by omega) (by omega) ?_
  rw [ey2]
  have hn1 := zn_of hx hm hF1 (by decide) (by decide) hn
  clear et eb em es0 es1 es2 es3 es4 es5
  obtain ⟨⟨et, kt⟩, ⟨eb, kb⟩, ⟨em, km⟩, ⟨es0, ks0⟩, ⟨es1, ks1⟩, ⟨es2, ks2⟩, ⟨es3, ks3⟩, ⟨es4, ks4⟩, es5, ks5⟩ := id hn1
  refine sv_cv C (index := 102) (k := 2) (rest := []) (as := [sv_i y1, sv_i y2]) (ci := 10) (r := (RX11, TX11, 47)) (by decide +kernel) (ct_X11_goes l g A ty σ1 hk1 hTA hI1 mm hm (y1) ⟨by omega, by omega⟩ (y2) ⟨by omega, by omega⟩ sq ks0 s1 ks1 s4 ks4 s5 ks5 es0 es1 es4 es5) ⟨lz_co_X11_goes, lz_in_X11, ⟨by decide, by decide, by decide +kernel⟩, Nat.le_of_ble_eq_true rfl, Nat.le_of_ble_eq_true rfl⟩ lz_ml_102 lz_im_X11_goes lz_se_X11_goes (by rw [hm]; rfl) rfl rfl rfl (Nat.le_of_ble_eq_true rfl) ⟨Nat.le_of_ble_eq_true rfl, Nat.le_of_ble_eq_true rfl⟩ (fun r2 σ2 hp2 hk2 => ?_)
  obtain ⟨⟨v2, rfl, hv2, im2_0⟩, hI2, hF2⟩ := hp2
  have hst2 := lz_goes hx hm hI hn hD hst hv (sv_ofx.rf.tr hF1 (by decide) (by decide)) (sv_ofx.rf.tr hF2 (by decide) (by decide)) (im1_0 (by omega) (by omega)) (im2_0 (by omega) (by omega))
  refine sv_same (st2 := [sv_i v2]) (lv2 := [(0, sv_r b), (1, sv_r x), (2, sv_r mm), (3, sv_i i)]) rfl rfl ?_
  refine sv_go C.1 C.2.1 [(.pop, 1)] (pc' := 1022) (by decide +kernel) rfl (lv' := [(0, sv_r b), (1, sv_r x), (2, sv_r mm), (3, sv_i i)]) (st' := []) rfl ?_
  refine sv_goto C.1 C.2.1 (off := 171) (by decide +kernel) (tgt := 1193) rfl ?_
  exact kk σ2 ⟨hk2, hTA, hI2, hx, hm, hst2.2⟩
set_option maxHeartbeats 4000000 in
set_option maxRecDepth 100000 in
theorem lz_c21 {p : Program} {l : Launch} {e : Env} {s : State} {m : MethodId} {below : List Frame} {meth : Method} {c : Code} {g : sv_G} {A : Nat → Prop} {b : Nat} {xs : Nat → Int32} {ty : Nat → Nat} {σ : Nat → Nat → Int} {x mm : Nat} {L : Nat} {i : Int} (T : lz_K p s m meth c g A b L xs) (hL : L ≤ 3072) (hi : 0 ≤ i ∧ i + 6 ≤ (L : Int)) (Z : lz_S A ty σ x mm) (kk : ∀ σ2, lz_S A ty σ2 x mm → lz_V p l e s m below meth c b A 433 29939 (sv_H g ty σ2) 1193 [(0, sv_r b), (1, sv_r x), (2, sv_r mm), (3, sv_i i)] []) : lz_V p l e s m below meth c b A 433 29939 (sv_H g ty σ) 1025 [(0, sv_r b), (1, sv_r x), (2, sv_r mm), (3, sv_i i)] [] := by
  obtain ⟨C, hX, hbl, hbA, hAs, hr⟩ := T
  obtain ⟨hok, hTA, hI, hx, hm, hR⟩ := Z
  obtain ⟨y1, hy1, ey1⟩ : ∃ z : Int, (-2147483648 ≤ z ∧ z ≤ 2147483647) ∧ (xs (i + 1).toNat).toInt = z := ⟨_, sv_ioin2 _, rfl⟩
  obtain ⟨y2, hy2, ey2⟩ : ∃ z : Int, (-2147483648 ≤ z ∧ z ≤ 2147483647) ∧ (xs (i + 2).toNat).toInt = z := ⟨_, sv_ioin2 _, rfl⟩
  refine sv_go C.1 C.2.1 [(.aload_n 1, 1), (.aload_n 0, 1), (.iload_n 3, 1), (.iconst 1, 1), (.iadd, 1)] (pc' := 1030) (by decide +kernel) rfl (lv' := [(0, sv_r b), (1, sv_r x), (2, sv_r mm), (3, sv_i i)]) (st' := [sv_i (i + 1), sv_r b, sv_r x]) rfl ?_
  refine sv_sld C hX hbl hbA (by omega) (j := (i + 1).toNat) (by decide +kernel) (by omega) (by omega) ?_
  rw [ey1]
  refine sv_go C.1 C.2.1 [(.aload_n 0, 1), (.iload_n 3, 1), (.iconst 2, 1), (.iadd, 1)] (pc' := 1035) (by decide +kernel) rfl (lv' := [(0, sv_r b), (1, sv_r x), (2, sv_r mm), (3, sv_i i)]) (st' := [sv_i (i + 2), sv_r b, sv_i y1, sv_r x]) rfl ?_
  refine sv_sld C hX hbl hbA (by omega) (j := (i + 2).toNat) (by decide +kernel) (by omega) (by omega) ?_
  rw [ey2]
  obtain ⟨tq, bq, mq, sq, s1, s2, s3, s4, s5, hn, hD, hst, hv⟩ := id hR
  obtain ⟨⟨et, kt⟩, ⟨eb, kb⟩, ⟨em, km⟩, ⟨es0, ks0⟩, ⟨es1, ks1⟩, ⟨es2, ks2⟩, ⟨es3, ks3⟩, ⟨es4, ks4⟩, es5, ks5⟩ := id hn
  refine sv_cv C (index := 103) (k := 2) (rest := []) (as := [sv_i y1, sv_i y2]) (ci := 8) (r := (RX9, TX9, 6)) (by decide +kernel) (ct_X9_late l g A ty σ hok hTA hI x hx (y1) ⟨by omega, by omega⟩ (y2) ⟨by omega, by omega⟩ tq kt bq kb et eb) ⟨lz_co_X9_late, lz_in_X9, ⟨by decide, by decide, by decide +kernel⟩, Nat.le_of_ble_eq_true rfl, Nat.le_of_ble_eq_true rfl⟩ lz_ml_103 lz_im_X9_late lz_se_X9_late (by rw [hx]; rfl) rfl rfl rfl (Nat.le_of_ble_eq_true rfl) ⟨Nat.le_of_ble_eq_true rfl, Nat.le_of_ble_eq_true rfl⟩ (fun r1 σ1 hp1 hk1 => ?_)
  obtain ⟨⟨v1, rfl, hv1, im1_0⟩, hI1, hF1⟩ := hp1
  refine sv_same (st2 := [sv_i v1]) (lv2 := [(0, sv_r b), (1, sv_r x), (2, sv_r mm), (3, sv_i i)]) rfl rfl ?_
  refine sv_go C.1 C.2.1 [(.pop, 1), (.aload_n 2, 1), (.aload_n 0, 1), (.iload_n 3, 1), (.iconst 1, 1), (.iadd, 1)] (pc' := 1045) (by decide +kernel) rfl (lv' := [(0, sv_r b), (1, sv_r x), (2, sv_r mm), (3, sv_i i)]) (st' := [sv_i (i + 1), sv_r b, sv_r mm]) rfl ?_
  refine sv_sld C hX hbl hbA (by omega) (j := (i + 1).toNat) (by decide +kernel) (by omega) (by omega) ?_
  rw [ey1]
  refine sv_go C.1 C.2.1 [(.aload_n 0, 1), (.iload_n 3, 1), (.iconst 2, 1), (.iadd, 1)] (pc' := 1050) (by decide +kernel) rfl (lv' := [(0, sv_r b), (1, sv_r x), (2, sv_r mm), (3, sv_i i)]) (st' := [sv_i (i + 2), sv_r b, sv_i y1, sv_r mm]) rfl ?_
  refine sv_sld C hX hbl hbA (by omega) (j := (i + 2).toNat) (by decide +kernel) (by omega) (by omega) ?_
  rw [ey2]
  have hn1 := zn_of hx hm hF1 (by decide) (by decide) hn
  clear et eb em es0 es1 es2 es3 es4 es5
  obtain ⟨⟨et, kt⟩, ⟨eb, kb⟩, ⟨em, km⟩, ⟨es0, ks0⟩, ⟨es1, ks1⟩, ⟨es2, ks2⟩, ⟨es3, ks3⟩, ⟨es4, ks4⟩, es5, ks5⟩ := id hn1
  refine sv_cv C (index := 106) (k := 2) (rest := []) (as := [sv_i y1, sv_i y2]) (ci := 10) (r := (RX11, TX11, 47)) (by decide +kernel) (ct_X11_late l g A ty σ1 hk1 hTA hI1 mm hm (y1) ⟨by omega, by omega⟩ (y2) ⟨by omega, by omega⟩ s1 ks1 s2 ks2 es1 es2) ⟨lz_co_X11_late, lz_in_X11, ⟨by decide, by decide, by decide +kernel⟩, Nat.le_of_ble_eq_true rfl, Nat.le_of_ble_eq_true rfl⟩ lz_ml_106 lz_im_X11_late lz_se_X11_late (by rw [hm]; rfl) rfl rfl rfl (Nat.le_of_ble_eq_true rfl) ⟨Nat.le_of_ble_eq_true rfl, Nat.le_of_ble_eq_true rfl⟩ (fun r2 σ2 hp2 hk2 => ?_)
  obtain ⟨⟨v2, rfl, hv2, im2_0⟩, hI2, hF2⟩ := hp2
  have hst2 := lz_late hx hm hn hD hst hv (sv_ofx.rf.tr hF1 (by decide) (by decide)) (sv_ofx.rf.tr hF2 (by decide) (by decide)) (im1_0 (by omega) (by omega)) (im2_0 (by omega) (by omega))
  refine sv_same (st2 := [sv_i v2]) (lv2 := [(0, sv_r b), (1, sv_r x), (2, sv_r mm), (3, sv_i i)]) rfl rfl ?_
  refine sv_go C.1 C.2.1 [(.pop, 1)] (pc' := 1055) (by decide +kernel) rfl (lv' := [(0, sv_r b), (1, sv_r x), (2, sv_r mm), (3, sv_i i)]) (st' := []) rfl ?_
  refine sv_goto C.1 C.2.1 (off := 138) (by decide +kernel) (tgt := 1193) rfl ?_
  exact kk σ2 ⟨hk2, hTA, hI2, hx, hm, hst2.2⟩
set_option maxHeartbeats 4000000 in
set_option maxRecDepth 100000 in
theorem lz_c22 {p : Program} {l : Launch} {e : Env} {s : State} {m : MethodId} {below : List Frame} {meth : Method} {c : Code} {g : sv_G} {A : Nat → Prop} {b : Nat} {xs : Nat → Int32} {ty : Nat → Nat} {σ : Nat → Nat → Int} {x mm : Nat} {L : Nat} {i : Int} (T : lz_K p s m meth c g A b L xs) (hL : L ≤ 3072) (hi : 0 ≤ i ∧ i + 6 ≤ (L : Int)) (Z : lz_S A ty σ x mm) (kk : ∀ σ2, lz_S A ty σ2 x mm → lz_V p l e s m below meth c b A 433 29939 (sv_H g ty σ2) 1193 [(0, sv_r b), (1, sv_r x), (2, sv_r mm), (3, sv_i i)] []) : lz_V p l e s m below meth c b A 433 29939 (sv_H g ty σ) 1058 [(0, sv_r b), (1, sv_r x), (2, sv_r mm), (3, sv_i i)] [] := by
  obtain ⟨C, hX, hbl, hbA, hAs, hr⟩ := T
  obtain ⟨hok, hTA, hI, hx, hm, hR⟩ := Z
  obtain ⟨y1, hy1, ey1⟩ : ∃ z : Int, (-2147483648 ≤ z ∧ z ≤ 2147483647) ∧ (xs (i + 1).toNat).toInt = z := ⟨_, sv_ioin2 _, rfl⟩
  obtain ⟨y2, hy2, ey2⟩ : ∃ z : Int, (-2147483648 ≤ z ∧ z ≤ 2147483647) ∧ (xs (i + 2).toNat).toInt = z := ⟨_, sv_ioin2 _, rfl⟩
  refine sv_go C.1 C.2.1 [(.aload_n 1, 1), (.aload_n 0, 1), (.iload_n 3, 1), (.iconst 1, 1), (.iadd, 1)] (pc' := 1063) (by decide +kernel) rfl (lv' := [(0, sv_r b), (1, sv_r x), (2, sv_r mm), (3, sv_i i)]) (st' := [sv_i (i + 1), sv_r b, sv_r x]) rfl ?_
  refine sv_sld C hX hbl hbA (by omega) (j := (i + 1).toNat) (by decide +kernel) (by omega) (by omega) ?_
  rw [ey1]
  refine sv_go C.1 C.2.1 [(.aload_n 0, 1), (.iload_n 3, 1), (.iconst 2, 1), (.iadd, 1)] (pc' := 1068) (by decide +kernel) rfl (lv' := [(0, sv_r b), (1, sv_r x), (2, sv_r mm), (3, sv_i i)]) (st' := [sv_i (i + 2), sv_r b, sv_i y1, sv_r x]) rfl ?_
  refine sv_sld C hX hbl hbA (by omega) (j := (i + 2).toNat) (by decide +kernel) (by omega) (by omega) ?_
  rw [ey2]
  obtain ⟨tq, bq, mq, sq, s1, s2, s3, s4, s5, hn, hD, hst, hv⟩ := id hR
  obtain ⟨⟨et, kt⟩, ⟨eb, kb⟩, ⟨em, km⟩, ⟨es0, ks0⟩, ⟨es1, ks1⟩, ⟨es2, ks2⟩, ⟨es3, ks3⟩, ⟨es4, ks4⟩, es5, ks5⟩ := id hn
  refine sv_cv C (index := 107) (k := 2) (rest := []) (as := [sv_i y1, sv_i y2]) (ci := 8) (r := (RX9, TX9, 6)) (by decide +kernel) (ct_X9_procession l g A ty σ hok hTA hI x hx (y1) ⟨by omega, by omega⟩ (y2) ⟨by omega, by omega⟩ tq kt bq kb et eb) ⟨lz_co_X9_procession, lz_in_X9, ⟨by decide, by decide, by decide +kernel⟩, Nat.le_of_ble_eq_true rfl, Nat.le_of_ble_eq_true rfl⟩ lz_ml_107 lz_im_X9_procession lz_se_X9_procession (by rw [hx]; rfl) rfl rfl rfl (Nat.le_of_ble_eq_true rfl) ⟨Nat.le_of_ble_eq_true rfl, Nat.le_of_ble_eq_true rfl⟩ (fun r1 σ1 hp1 hk1 => ?_)
  obtain ⟨hs1, ⟨v1, rfl, hv1, im1_0⟩⟩ := hp1
  subst hs1
  refine sv_same (st2 := [sv_i v1]) (lv2 := [(0, sv_r b), (1, sv_r x), (2, sv_r mm), (3, sv_i i)]) rfl rfl ?_
  refine sv_go C.1 C.2.1 [(.pop, 1), (.aload_n 2, 1), (.aload_n 0, 1), (.iload_n 3, 1), (.iconst 1, 1), (.iadd, 1)] (pc' := 1078) (by decide +kernel) rfl (lv' := [(0, sv_r b), (1, sv_r x), (2, sv_r mm), (3, sv_i i)]) (st' := [sv_i (i + 1), sv_r b, sv_r mm]) rfl ?_
  refine sv_sld C hX hbl hbA (by omega) (j := (i + 1).toNat) (by decide +kernel) (by omega) (by omega) ?_
  rw [ey1]
  refine sv_go C.1 C.2.1 [(.aload_n 0, 1), (.iload_n 3, 1), (.iconst 2, 1), (.iadd, 1)] (pc' := 1083) (by decide +kernel) rfl (lv' := [(0, sv_r b), (1, sv_r x), (2, sv_r mm), (3, sv_i i)]) (st' := [sv_i (i + 2), sv_r b, sv_i y1, sv_r mm]) rfl ?_
  refine sv_sld C hX hbl hbA (by omega) (j := (i + 2).toNat) (by decide +kernel) (by omega) (by omega) ?_
  rw [ey2]
  refine sv_cv C (index := 110) (k := 2) (rest := []) (as := [sv_i y1, sv_i y2]) (ci := 10) (r := (RX11, TX11, 47)) (by decide +kernel) (ct_X11_procession l g A ty σ hk1 hTA hI mm hm (y1) ⟨by omega, by omega⟩ (y2) ⟨by omega, by omega⟩ s1 ks1 s2 ks2 s3 ks3 s4 ks4 s5 ks5 es1 es2 es3 es4 es5) ⟨lz_co_X11_procession, lz_in_X11, ⟨by decide, by decide, by decide +kernel⟩, Nat.le_of_ble_eq_true rfl, Nat.le_of_ble_eq_true rfl⟩ lz_ml_110 lz_im_X11_procession lz_se_X11_procession (by rw [hm]; rfl) rfl rfl rfl (Nat.le_of_ble_eq_true rfl) ⟨Nat.le_of_ble_eq_true rfl, Nat.le_of_ble_eq_true rfl⟩ (fun r2 σ2 hp2 hk2 => ?_)
  obtain ⟨hs2, ⟨v2, rfl, hv2, im2_0⟩⟩ := hp2
  subst hs2
  have hst2 := lz_tell hI hn hD hv (im1_0 (by omega) (by omega)) (im2_0 (by omega) (by omega))
  refine sv_same (st2 := [sv_i v2]) (lv2 := [(0, sv_r b), (1, sv_r x), (2, sv_r mm), (3, sv_i i)]) rfl rfl ?_
  refine sv_go C.1 C.2.1 [(.pop, 1)] (pc' := 1088) (by decide +kernel) rfl (lv' := [(0, sv_r b), (1, sv_r x), (2, sv_r mm), (3, sv_i i)]) (st' := []) rfl ?_
  refine sv_goto C.1 C.2.1 (off := 105) (by decide +kernel) (tgt := 1193) rfl ?_
  exact kk σ ⟨hk2, hTA, hI, hx, hm, hR⟩
set_option maxHeartbeats 4000000 in
set_option maxRecDepth 100000 in
theorem lz_c23 {p : Program} {l : Launch} {e : Env} {s : State} {m : MethodId} {below : List Frame} {meth : Method} {c : Code} {g : sv_G} {A : Nat → Prop} {b : Nat} {xs : Nat → Int32} {ty : Nat → Nat} {σ : Nat → Nat → Int} {x mm : Nat} {L : Nat} {i : Int} (T : lz_K p s m meth c g A b L xs) (hL : L ≤ 3072) (hi : 0 ≤ i ∧ i + 6 ≤ (L : Int)) (Z : lz_S A ty σ x mm) (kk : ∀ σ2, lz_S A ty σ2 x mm → lz_V p l e s m below meth c b A 433 29939 (sv_H g ty σ2) 1193 [(0, sv_r b), (1, sv_r x), (2, sv_r mm), (3, sv_i i)] []) : lz_V p l e s m below meth c b A 433 29939 (sv_H g ty σ) 1091 [(0, sv_r b), (1, sv_r x), (2, sv_r mm), (3, sv_i i)] [] := by
  obtain ⟨C, hX, hbl, hbA, hAs, hr⟩ := T
  obtain ⟨hok, hTA, hI, hx, hm, hR⟩ := Z
  refine sv_go C.1 C.2.1 [(.aload_n 1, 1)] (pc' := 1092) (by decide +kernel) rfl (lv' := [(0, sv_r b), (1, sv_r x), (2, sv_r mm), (3, sv_i i)]) (st' := [sv_r x]) rfl ?_
  refine sv_cv C (index := 111) (k := 0) (rest := []) (as := []) (ci := 8) (r := (RX9, TX9, 6)) (by decide +kernel) (sf_X9_meets l g A ty σ hok hTA hI x hx ) ⟨lz_co_X9_meets, lz_in_X9, ⟨by decide, by decide, by decide +kernel⟩, Nat.le_of_ble_eq_true rfl, Nat.le_of_ble_eq_true rfl⟩ lz_ml_111 lz_im_X9_meets lz_se_X9_meets (by rw [hx]; rfl) rfl rfl rfl (Nat.le_of_ble_eq_true rfl) ⟨Nat.le_of_ble_eq_true rfl, Nat.le_of_ble_eq_true rfl⟩ (fun r1 σ1 hp1 hk1 => ?_)
  obtain ⟨hs1, ⟨v1, rfl, hv1⟩⟩ := hp1
  subst hs1
  refine sv_same (st2 := [sv_i v1]) (lv2 := [(0, sv_r b), (1, sv_r x), (2, sv_r mm), (3, sv_i i)]) rfl rfl ?_
  refine sv_go C.1 C.2.1 [(.pop, 1), (.aload_n 2, 1)] (pc' := 1097) (by decide +kernel) rfl (lv' := [(0, sv_r b), (1, sv_r x), (2, sv_r mm), (3, sv_i i)]) (st' := [sv_r mm]) rfl ?_
  refine sv_cv C (index := 115) (k := 0) (rest := []) (as := []) (ci := 10) (r := (RX11, TX11, 47)) (by decide +kernel) (sf_X11_meets l g A ty σ hk1 hTA hI mm hm ) ⟨lz_co_X11_meets, lz_in_X11, ⟨by decide, by decide, by decide +kernel⟩, Nat.le_of_ble_eq_true rfl, Nat.le_of_ble_eq_true rfl⟩ lz_ml_115 lz_im_X11_meets lz_se_X11_meets (by rw [hm]; rfl) rfl rfl rfl (Nat.le_of_ble_eq_true rfl) ⟨Nat.le_of_ble_eq_true rfl, Nat.le_of_ble_eq_true rfl⟩ (fun r2 σ2 hp2 hk2 => ?_)
  obtain ⟨hs2, ⟨v2, rfl, hv2⟩⟩ := hp2
  subst hs2
  refine sv_same (st2 := [sv_i v2]) (lv2 := [(0, sv_r b), (1, sv_r x), (2, sv_r mm), (3, sv_i i)]) rfl rfl ?_
  refine sv_go C.1 C.2.1 [(.pop, 1)] (pc' := 1101) (by decide +kernel) rfl (lv' := [(0, sv_r b), (1, sv_r x), (2, sv_r mm), (3, sv_i i)]) (st' := []) rfl ?_
  refine sv_goto C.1 C.2.1 (off := 92) (by decide +kernel) (tgt := 1193) rfl ?_
  exact kk σ ⟨hk2, hTA, hI, hx, hm, hR⟩
set_option maxHeartbeats 4000000 in
set_option maxRecDepth 100000 in
theorem lz_c24 {p : Program} {l : Launch} {e : Env} {s : State} {m : MethodId} {below : List Frame} {meth : Method} {c : Code} {g : sv_G} {A : Nat → Prop} {b : Nat} {xs : Nat → Int32} {ty : Nat → Nat} {σ : Nat → Nat → Int} {x mm : Nat} {L : Nat} {i : Int} (T : lz_K p s m meth c g A b L xs) (hL : L ≤ 3072) (hi : 0 ≤ i ∧ i + 6 ≤ (L : Int)) (Z : lz_S A ty σ x mm) (kk : ∀ σ2, lz_S A ty σ2 x mm → lz_V p l e s m below meth c b A 433 29939 (sv_H g ty σ2) 1193 [(0, sv_r b), (1, sv_r x), (2, sv_r mm), (3, sv_i i)] []) : lz_V p l e s m below meth c b A 433 29939 (sv_H g ty σ) 1104 [(0, sv_r b), (1, sv_r x), (2, sv_r mm), (3, sv_i i)] [] := by
  obtain ⟨C, hX, hbl, hbA, hAs, hr⟩ := T
  obtain ⟨hok, hTA, hI, hx, hm, hR⟩ := Z
  obtain ⟨y1, hy1, ey1⟩ : ∃ z : Int, (-2147483648 ≤ z ∧ z ≤ 2147483647) ∧ (xs (i + 1).toNat).toInt = z := ⟨_, sv_ioin2 _, rfl⟩
  obtain ⟨y2, hy2, ey2⟩ : ∃ z : Int, (-2147483648 ≤ z ∧ z ≤ 2147483647) ∧ (xs (i + 2).toNat).toInt = z := ⟨_, sv_ioin2 _, rfl⟩
  refine sv_go C.1 C.2.1 [(.aload_n 1, 1), (.aload_n 0, 1), (.iload_n 3, 1), (.iconst 1, 1), (.iadd, 1)] (pc' := 1109) (by decide +kernel) rfl (lv' := [(0, sv_r b), (1, sv_r x), (2, sv_r mm), (3, sv_i i)]) (st' := [sv_i (i + 1), sv_r b, sv_r x]) rfl ?_
  refine sv_sld C hX hbl hbA (by omega) (j := (i + 1).toNat) (by decide +kernel) (by omega) (by omega) ?_
  rw [ey1]
  refine sv_go C.1 C.2.1 [(.aload_n 0, 1), (.iload_n 3, 1), (.iconst 2, 1), (.iadd, 1)] (pc' := 1114) (by decide +kernel) rfl (lv' := [(0, sv_r b), (1, sv_r x), (2, sv_r mm), (3, sv_i i)]) (st' := [sv_i (i + 2), sv_r b, sv_i y1, sv_r x]) rfl ?_
  refine sv_sld C hX hbl hbA (by omega) (j := (i + 2).toNat) (by decide +kernel) (by omega) (by omega) ?_
  rw [ey2]
  refine sv_cv C (index := 116) (k := 2) (rest := []) (as := [sv_i y1, sv_i y2]) (ci := 8) (r := (RX9, TX9, 6)) (by decide +kernel) (sf_X9_meeting l g A ty σ hok hTA hI x hx (y1) ⟨by omega, by omega⟩ (y2) ⟨by omega, by omega⟩) ⟨lz_co_X9_meeting, lz_in_X9, ⟨by decide, by decide, by decide +kernel⟩, Nat.le_of_ble_eq_true rfl, Nat.le_of_ble_eq_true rfl⟩ lz_ml_116 lz_im_X9_meeting lz_se_X9_meeting (by rw [hx]; rfl) rfl rfl rfl (Nat.le_of_ble_eq_true rfl) ⟨Nat.le_of_ble_eq_true rfl, Nat.le_of_ble_eq_true rfl⟩ (fun r1 σ1 hp1 hk1 => ?_)
  obtain ⟨hs1, ⟨v1, rfl, hv1⟩⟩ := hp1
  subst hs1
  refine sv_same (st2 := [sv_i v1]) (lv2 := [(0, sv_r b), (1, sv_r x), (2, sv_r mm), (3, sv_i i)]) rfl rfl ?_
  refine sv_go C.1 C.2.1 [(.pop, 1), (.aload_n 2, 1), (.aload_n 0, 1), (.iload_n 3, 1), (.iconst 1, 1), (.iadd, 1)] (pc' := 1124) (by decide +kernel) rfl (lv' := [(0, sv_r b), (1, sv_r x), (2, sv_r mm), (3, sv_i i)]) (st' := [sv_i (i + 1), sv_r b, sv_r mm]) rfl ?_
  refine sv_sld C hX hbl hbA (by omega) (j := (i + 1).toNat) (by decide +kernel) (by omega) (by omega) ?_
  rw [ey1]
  refine sv_go C.1 C.2.1 [(.aload_n 0, 1), (.iload_n 3, 1), (.iconst 2, 1), (.iadd, 1)] (pc' := 1129) (by decide +kernel) rfl (lv' := [(0, sv_r b), (1, sv_r x), (2, sv_r mm), (3, sv_i i)]) (st' := [sv_i (i + 2), sv_r b, sv_i y1, sv_r mm]) rfl ?_
  refine sv_sld C hX hbl hbA (by omega) (j := (i + 2).toNat) (by decide +kernel) (by omega) (by omega) ?_
  rw [ey2]
  refine sv_cv C (index := 119) (k := 2) (rest := []) (as := [sv_i y1, sv_i y2]) (ci := 10) (r := (RX11, TX11, 47)) (by decide +kernel) (sf_X11_meeting l g A ty σ hk1 hTA hI mm hm (y1) ⟨by omega, by omega⟩ (y2) ⟨by omega, by omega⟩) ⟨lz_co_X11_meeting, lz_in_X11, ⟨by decide, by decide, by decide +kernel⟩, Nat.le_of_ble_eq_true rfl, Nat.le_of_ble_eq_true rfl⟩ lz_ml_119 lz_im_X11_meeting lz_se_X11_meeting (by rw [hm]; rfl) rfl rfl rfl (Nat.le_of_ble_eq_true rfl) ⟨Nat.le_of_ble_eq_true rfl, Nat.le_of_ble_eq_true rfl⟩ (fun r2 σ2 hp2 hk2 => ?_)
  obtain ⟨hs2, ⟨v2, rfl, hv2⟩⟩ := hp2
  subst hs2
  refine sv_same (st2 := [sv_i v2]) (lv2 := [(0, sv_r b), (1, sv_r x), (2, sv_r mm), (3, sv_i i)]) rfl rfl ?_
  refine sv_go C.1 C.2.1 [(.pop, 1)] (pc' := 1134) (by decide +kernel) rfl (lv' := [(0, sv_r b), (1, sv_r x), (2, sv_r mm), (3, sv_i i)]) (st' := []) rfl ?_
  refine sv_goto C.1 C.2.1 (off := 59) (by decide +kernel) (tgt := 1193) rfl ?_
  exact kk σ ⟨hk2, hTA, hI, hx, hm, hR⟩
set_option maxHeartbeats 4000000 in
set_option maxRecDepth 100000 in
theorem lz_c25 {p : Program} {l : Launch} {e : Env} {s : State} {m : MethodId} {below : List Frame} {meth : Method} {c : Code} {g : sv_G} {A : Nat → Prop} {b : Nat} {xs : Nat → Int32} {ty : Nat → Nat} {σ : Nat → Nat → Int} {x mm : Nat} {L : Nat} {i : Int} (T : lz_K p s m meth c g A b L xs) (hL : L ≤ 3072) (hi : 0 ≤ i ∧ i + 6 ≤ (L : Int)) (Z : lz_S A ty σ x mm) (kk : ∀ σ2, lz_S A ty σ2 x mm → lz_V p l e s m below meth c b A 433 29939 (sv_H g ty σ2) 1193 [(0, sv_r b), (1, sv_r x), (2, sv_r mm), (3, sv_i i)] []) : lz_V p l e s m below meth c b A 433 29939 (sv_H g ty σ) 1137 [(0, sv_r b), (1, sv_r x), (2, sv_r mm), (3, sv_i i)] [] := by
  obtain ⟨C, hX, hbl, hbA, hAs, hr⟩ := T
  obtain ⟨hok, hTA, hI, hx, hm, hR⟩ := Z
  obtain ⟨y1, hy1, ey1⟩ : ∃ z : Int, (-2147483648 ≤ z ∧ z ≤ 2147483647) ∧ (xs (i + 1).toNat).toInt = z := ⟨_, sv_ioin2 _, rfl⟩
  obtain ⟨y2, hy2, ey2⟩ : ∃ z : Int, (-2147483648 ≤ z ∧ z ≤ 2147483647) ∧ (xs (i + 2).toNat).toInt = z := ⟨_, sv_ioin2 _, rfl⟩
  refine sv_go C.1 C.2.1 [(.aload_n 1, 1), (.aload_n 0, 1), (.iload_n 3, 1), (.iconst 1, 1), (.iadd, 1)] (pc' := 1142) (by decide +kernel) rfl (lv' := [(0, sv_r b), (1, sv_r x), (2, sv_r mm), (3, sv_i i)]) (st' := [sv_i (i + 1), sv_r b, sv_r x]) rfl ?_
  refine sv_sld C hX hbl hbA (by omega) (j := (i + 1).toNat) (by decide +kernel) (by omega) (by omega) ?_
  rw [ey1]
  refine sv_go C.1 C.2.1 [(.aload_n 0, 1), (.iload_n 3, 1), (.iconst 2, 1), (.iadd, 1)] (pc' := 1147) (by decide +kernel) rfl (lv' := [(0, sv_r b), (1, sv_r x), (2, sv_r mm), (3, sv_i i)]) (st' := [sv_i (i + 2), sv_r b, sv_i y1, sv_r x]) rfl ?_
  refine sv_sld C hX hbl hbA (by omega) (j := (i + 2).toNat) (by decide +kernel) (by omega) (by omega) ?_
  rw [ey2]
  refine sv_cv C (index := 120) (k := 2) (rest := []) (as := [sv_i y1, sv_i y2]) (ci := 8) (r := (RX9, TX9, 6)) (by decide +kernel) (sf_X9_timed l g A ty σ hok hTA hI x hx (y1) ⟨by omega, by omega⟩ (y2) ⟨by omega, by omega⟩) ⟨lz_co_X9_timed, lz_in_X9, ⟨by decide, by decide, by decide +kernel⟩, Nat.le_of_ble_eq_true rfl, Nat.le_of_ble_eq_true rfl⟩ lz_ml_120 lz_im_X9_timed lz_se_X9_timed (by rw [hx]; rfl) rfl rfl rfl (Nat.le_of_ble_eq_true rfl) ⟨Nat.le_of_ble_eq_true rfl, Nat.le_of_ble_eq_true rfl⟩ (fun r1 σ1 hp1 hk1 => ?_)
  obtain ⟨⟨v1, rfl, hv1⟩, hI1, hF1⟩ := hp1
  refine sv_same (st2 := [sv_i v1]) (lv2 := [(0, sv_r b), (1, sv_r x), (2, sv_r mm), (3, sv_i i)]) rfl rfl ?_
  refine sv_go C.1 C.2.1 [(.pop, 1), (.aload_n 2, 1), (.aload_n 0, 1), (.iload_n 3, 1), (.iconst 1, 1), (.iadd, 1)] (pc' := 1157) (by decide +kernel) rfl (lv' := [(0, sv_r b), (1, sv_r x), (2, sv_r mm), (3, sv_i i)]) (st' := [sv_i (i + 1), sv_r b, sv_r mm]) rfl ?_
  refine sv_sld C hX hbl hbA (by omega) (j := (i + 1).toNat) (by decide +kernel) (by omega) (by omega) ?_
  rw [ey1]
  refine sv_go C.1 C.2.1 [(.aload_n 0, 1), (.iload_n 3, 1), (.iconst 2, 1), (.iadd, 1)] (pc' := 1162) (by decide +kernel) rfl (lv' := [(0, sv_r b), (1, sv_r x), (2, sv_r mm), (3, sv_i i)]) (st' := [sv_i (i + 2), sv_r b, sv_i y1, sv_r mm]) rfl ?_
  refine sv_sld C hX hbl hbA (by omega) (j := (i + 2).toNat) (by decide +kernel) (by omega) (by omega) ?_
  rw [ey2]
  obtain ⟨s2, es2, ks2⟩ := hI1.ref (k := 43) hm rfl
  refine sv_cv C (index := 123) (k := 2) (rest := []) (as := [sv_i y1, sv_i y2]) (ci := 10) (r := (RX11, TX11, 47)) (by decide +kernel) (ct_X11_timed l g A ty σ1 hk1 hTA hI1 mm hm (y1) ⟨by omega, by omega⟩ (y2) ⟨by omega, by omega⟩ s2 ks2 es2) ⟨lz_co_X11_timed, lz_in_X11, ⟨by decide, by decide, by decide +kernel⟩, Nat.le_of_ble_eq_true rfl, Nat.le_of_ble_eq_true rfl⟩ lz_ml_123 lz_im_X11_timed lz_se_X11_timed (by rw [hm]; rfl) rfl rfl rfl (Nat.le_of_ble_eq_true rfl) ⟨Nat.le_of_ble_eq_true rfl, Nat.le_of_ble_eq_true rfl⟩ (fun r2 σ2 hp2 hk2 => ?_)
  obtain ⟨⟨v2, rfl, hv2⟩, hI2, hF2, xp2⟩ := hp2
  refine sv_same (st2 := [sv_i v2]) (lv2 := [(0, sv_r b), (1, sv_r x), (2, sv_r mm), (3, sv_i i)]) rfl rfl ?_
  refine sv_go C.1 C.2.1 [(.pop, 1)] (pc' := 1167) (by decide +kernel) rfl (lv' := [(0, sv_r b), (1, sv_r x), (2, sv_r mm), (3, sv_i i)]) (st' := []) rfl ?_
  refine sv_goto C.1 C.2.1 (off := 26) (by decide +kernel) (tgt := 1193) rfl ?_
  exact kk σ2 ⟨hk2, hTA, hI2, hx, hm, (lz_keep0 hx hm hF2 (by decide) (by decide) (by decide) (by decide) (fun z e _ j => by have tz : s2 = z := (by omega); subst tz; exact xp2 j) (lz_keep hx hm hF1 (by decide) (by decide) (by decide) (by decide) (by decide) (by decide) hR))⟩
set_option maxHeartbeats 4000000 in
set_option maxRecDepth 100000 in
theorem lz_c26 {p : Program} {l : Launch} {e : Env} {s : State} {m : MethodId} {below : List Frame} {meth : Method} {c : Code} {g : sv_G} {A : Nat → Prop} {b : Nat} {xs : Nat → Int32} {ty : Nat → Nat} {σ : Nat → Nat → Int} {x mm : Nat} {L : Nat} {i : Int} (T : lz_K p s m meth c g A b L xs) (hL : L ≤ 3072) (hi : 0 ≤ i ∧ i + 6 ≤ (L : Int)) (Z : lz_S A ty σ x mm) (kk : ∀ σ2, lz_S A ty σ2 x mm → lz_V p l e s m below meth c b A 433 29939 (sv_H g ty σ2) 1193 [(0, sv_r b), (1, sv_r x), (2, sv_r mm), (3, sv_i i)] []) : lz_V p l e s m below meth c b A 433 29939 (sv_H g ty σ) 1170 [(0, sv_r b), (1, sv_r x), (2, sv_r mm), (3, sv_i i)] [] := by
  obtain ⟨C, hX, hbl, hbA, hAs, hr⟩ := T
  obtain ⟨hok, hTA, hI, hx, hm, hR⟩ := Z
  obtain ⟨y1, hy1, ey1⟩ : ∃ z : Int, (-2147483648 ≤ z ∧ z ≤ 2147483647) ∧ (xs (i + 1).toNat).toInt = z := ⟨_, sv_ioin2 _, rfl⟩
  refine sv_go C.1 C.2.1 [(.aload_n 1, 1), (.aload_n 0, 1), (.iload_n 3, 1), (.iconst 1, 1), (.iadd, 1)] (pc' := 1175) (by decide +kernel) rfl (lv' := [(0, sv_r b), (1, sv_r x), (2, sv_r mm), (3, sv_i i)]) (st' := [sv_i (i + 1), sv_r b, sv_r x]) rfl ?_
  refine sv_sld C hX hbl hbA (by omega) (j := (i + 1).toNat) (by decide +kernel) (by omega) (by omega) ?_
  rw [ey1]
  refine sv_cv C (index := 124) (k := 1) (rest := []) (as := [sv_i y1]) (ci := 8) (r := (RX9, TX9, 6)) (by decide +kernel) (sf_X9_count l g A ty σ hok hTA hI x hx (y1) ⟨by omega, by omega⟩) ⟨lz_co_X9_count, lz_in_X9, ⟨by decide, by decide, by decide +kernel⟩, Nat.le_of_ble_eq_true rfl, Nat.le_of_ble_eq_true rfl⟩ lz_ml_124 lz_im_X9_count lz_se_X9_count (by rw [hx]; rfl) rfl rfl rfl (Nat.le_of_ble_eq_true rfl) ⟨Nat.le_of_ble_eq_true rfl, Nat.le_of_ble_eq_true rfl⟩ (fun r1 σ1 hp1 hk1 => ?_)
  obtain ⟨hs1, ⟨v1, rfl, hv1⟩⟩ := hp1
  subst hs1
  refine sv_same (st2 := [sv_i v1]) (lv2 := [(0, sv_r b), (1, sv_r x), (2, sv_r mm), (3, sv_i i)]) rfl rfl ?_
  refine sv_go C.1 C.2.1 [(.pop, 1), (.aload_n 2, 1), (.aload_n 0, 1), (.iload_n 3, 1), (.iconst 1, 1), (.iadd, 1)] (pc' := 1185) (by decide +kernel) rfl (lv' := [(0, sv_r b), (1, sv_r x), (2, sv_r mm), (3, sv_i i)]) (st' := [sv_i (i + 1), sv_r b, sv_r mm]) rfl ?_
  refine sv_sld C hX hbl hbA (by omega) (j := (i + 1).toNat) (by decide +kernel) (by omega) (by omega) ?_
  rw [ey1]
  refine sv_cv C (index := 127) (k := 1) (rest := []) (as := [sv_i y1]) (ci := 10) (r := (RX11, TX11, 47)) (by decide +kernel) (sf_X11_count l g A ty σ hk1 hTA hI mm hm (y1) ⟨by omega, by omega⟩) ⟨lz_co_X11_count, lz_in_X11, ⟨by decide, by decide, by decide +kernel⟩, Nat.le_of_ble_eq_true rfl, Nat.le_of_ble_eq_true rfl⟩ lz_ml_127 lz_im_X11_count lz_se_X11_count (by rw [hm]; rfl) rfl rfl rfl (Nat.le_of_ble_eq_true rfl) ⟨Nat.le_of_ble_eq_true rfl, Nat.le_of_ble_eq_true rfl⟩ (fun r2 σ2 hp2 hk2 => ?_)
  obtain ⟨hs2, ⟨v2, rfl, hv2⟩⟩ := hp2
  subst hs2
  refine sv_same (st2 := [sv_i v2]) (lv2 := [(0, sv_r b), (1, sv_r x), (2, sv_r mm), (3, sv_i i)]) rfl rfl ?_
  refine sv_go C.1 C.2.1 [(.pop, 1)] (pc' := 1190) (by decide +kernel) rfl (lv' := [(0, sv_r b), (1, sv_r x), (2, sv_r mm), (3, sv_i i)]) (st' := []) rfl ?_
  refine sv_goto C.1 C.2.1 (off := 3) (by decide +kernel) (tgt := 1193) rfl ?_
  exact kk σ ⟨hk2, hTA, hI, hx, hm, hR⟩
set_option maxHeartbeats 4000000 in
set_option maxRecDepth 100000 in
theorem lz_switch {p : Program} {l : Launch} {e : Env} {s : State} {m : MethodId} {below : List Frame} {meth : Method} {c : Code} {g : sv_G} {A : Nat → Prop} {b : Nat} {xs : Nat → Int32} {ty : Nat → Nat} {σ : Nat → Nat → Int} {x mm : Nat} {L : Nat} {i : Int} (T : lz_K p s m meth c g A b L xs) (hL : L ≤ 3072) (hi : 0 ≤ i ∧ i + 6 ≤ (L : Int)) (Z : lz_S A ty σ x mm) (kk : ∀ σ2, lz_S A ty σ2 x mm → lz_V p l e s m below meth c b A 433 29939 (sv_H g ty σ2) 1193 [(0, sv_r b), (1, sv_r x), (2, sv_r mm), (3, sv_i i)] []) (z : Int) (hz : sv_in z) : lz_V p l e s m below meth c b A 433 29939 (sv_H g ty σ) 33 [(0, sv_r b), (1, sv_r x), (2, sv_r mm), (3, sv_i i)] [sv_i z] := by
  by_cases h0 : z = 0
  · exact sv_tsI T.1.1 T.1.2.1 (dflt := 1160) (lo := 0) (hi := 26) (offs := #[123, 186, 209, 232, 255, 298, 321, 364, 407, 450, 493, 536, 589, 642, 685, 744, 807, 840, 863, 906, 959, 992, 1025, 1058, 1071, 1104, 1137]) (off := 123) (len := 123) (by decide +kernel) 0 h0 (by decide) (by decide +kernel) (tgt := 156) rfl (lz_c0 T hL hi Z kk)
  by_cases h1 : z = 1
  · exact sv_tsI T.1.1 T.1.2.1 (dflt := 1160) (lo := 0) (hi := 26) (offs := #[123, 186, 209, 232, 255, 298, 321, 364, 407, 450, 493, 536, 589, 642, 685, 744, 807, 840, 863, 906, 959, 992, 1025, 1058, 1071, 1104, 1137]) (off := 186) (len := 123) (by decide +kernel) 1 h1 (by decide) (by decide +kernel) (tgt := 219) rfl (lz_c1 T hL hi Z kk)
  by_cases h2 : z = 2
  · exact sv_tsI T.1.1 T.1.2.1 (dflt := 1160) (lo := 0) (hi := 26) (offs := #[123, 186, 209, 232, 255, 298, 321, 364, 407, 450, 493, 536, 589, 642, 685, 744, 807, 840, 863, 906, 959, 992, 1025, 1058, 1071, 1104, 1137]) (off := 209) (len := 123) (by decide +kernel) 2 h2 (by decide) (by decide +kernel) (tgt := 242) rfl (lz_c2 T hL hi Z kk)
  by_cases h3 : z = 3
  · exact sv_tsI T.1.1 T.1.2.1 (dflt := 1160) (lo := 0) (hi := 26) (offs := #[123, 186, 209, 232, 255, 298, 321, 364, 407, 450, 493, 536, 589, 642, 685, 744, 807, 840, 863, 906, 959, 992, 1025, 1058, 1071, 1104, 1137]) (off := 232) (len := 123) (by decide +kernel) 3 h3 (by decide) (by decide +kernel) (tgt := 265) rfl (lz_c3 T hL hi Z kk)
  by_cases h4 : z = 4
  · exact sv_tsI T.1.1 T.1.2.1 (dflt := 1160) (lo := 0) (hi := 26) (offs := #[123, 186, 209, 232, 255, 298, 321, 364, 407, 450, 493, 536, 589, 642, 685, 744, 807, 840, 863, 906, 959, 992, 1025, 1058, 1071, 1104, 1137]) (off := 255) (len := 123) (by decide +kernel) 4 h4 (by decide) (by decide +kernel) (tgt := 288) rfl (lz_c4 T hL hi Z kk)
  by_cases h5 : z = 5
  · exact sv_tsI T.1.1 T.1.2.1 (dflt := 1160) (lo := 0) (hi := 26) (offs := #[123, 186, 209, 232, 255, 298, 321, 364, 407, 450, 493, 536, 589, 642, 685, 744, 807, 840, 863, 906, 959, 992, 1025, 1058, 1071, 1104, 1137]) (off := 298) (len := 123) (by decide +kernel) 5 h5 (by decide) (by decide +kernel) (tgt := 331) rfl (lz_c5 T hL hi Z kk)
  by_cases h6 : z = 6
  · exact sv_tsI T.1.1 T.1.2.1 (dflt := 1160) (lo := 0) (hi := 26) (offs := #[123, 186, 209, 232, 255, 298, 321, 364, 407, 450, 493, 536, 589, 642, 685, 744, 807, 840, 863, 906, 959, 992, 1025, 1058, 1071, 1104, 1137]) (off := 321) (len := 123) (by decide +kernel) 6 h6 (by decide) (by decide +kernel) (tgt := 354) rfl (lz_c6 T hL hi Z kk)
  by_cases h7 : z = 7
  · exact sv_tsI T.1.1 T.1.2.1 (dflt := 1160) (lo := 0) (hi := 26) (offs := #[123, 186, 209, 232, 255, 298, 321, 364, 407, 450, 493, 536, 589, 642, 685, 744, 807, 840, 863, 906, 959, 992, 1025, 1058, 1071, 1104, 1137]) (off := 364) (len := 123) (by decide +kernel) 7 h7 (by decide) (by decide +kernel) (tgt := 397) rfl (lz_c7 T hL hi Z kk)
  by_cases h8 : z = 8
  · exact sv_tsI T.1.1 T.1.2.1 (dflt := 1160) (lo := 0) (hi := 26) (offs := #[123, 186, 209, 232, 255, 298, 321, 364, 407, 450, 493, 536, 589, 642, 685, 744, 807, 840, 863, 906, 959, 992, 1025, 1058, 1071, 1104, 1137]) (off := 407) (len := 123) (by decide +kernel) 8 h8 (by decide) (by decide +kernel) (tgt := 440) rfl (lz_c8 T hL hi Z kk)
  by_cases h9 : z = 9
  · exact sv_tsI T.1.1 T.1.2.1 (dflt := 1160) (lo := 0) (hi := 26) (offs := #[123, 186, 209, 232, 255, 298, 321, 364, 407, 450, 493, 536, 589, 642, 685, 744, 807, 840, 863, 906, 959, 992, 1025, 1058, 1071, 1104, 1137]) (off := 450) (len := 123) (by decide +kernel) 9 h9 (by decide) (by decide +kernel) (tgt := 483) rfl (lz_c9 T hL hi Z kk)
  by_cases h10 : z = 10
  · exact sv_tsI T.1.1 T.1.2.1 (dflt := 1160) (lo := 0) (hi := 26) (offs := #[123, 186, 209, 232, 255, 298, 321, 364, 407, 450, 493, 536, 589, 642, 685, 744, 807, 840, 863, 906, 959, 992, 1025, 1058, 1071, 1104, 1137]) (off := 493) (len := 123) (by decide +kernel) 10 h10 (by decide) (by decide +kernel) (tgt := 526) rfl (lz_c10 T hL hi Z kk)
  by_cases h11 : z = 11
  · exact sv_tsI T.1.1 T.1.2.1 (dflt := 1160) (lo := 0) (hi := 26) (offs := #[123, 186, 209, 232, 255, 298, 321, 364, 407, 450, 493, 536, 589, 642, 685, 744, 807, 840, 863, 906, 959, 992, 1025, 1058, 1071, 1104, 1137]) (off := 536) (len := 123) (by decide +kernel) 11 h11 (by decide) (by decide +kernel) (tgt := 569) rfl (lz_c11 T hL hi Z kk)
  by_cases h12 : z = 12
  · exact sv_tsI T.1.1 T.1.2.1 (dflt := 1160) (lo := 0) (hi := 26) (offs := #[123, 186, 209, 232, 255, 298, 321, 364, 407, 450, 493, 536, 589, 642, 685, 744, 807, 840, 863, 906, 959, 992, 1025, 1058, 1071, 1104, 1137]) (off := 589) (len := 123) (by decide +kernel) 12 h12 (by decide) (by decide +kernel) (tgt := 622) rfl (lz_c12 T hL hi Z kk)
  by_cases h13 : z = 13
  · exact sv_tsI T.1.1 T.1.2.1 (dflt := 1160) (lo := 0) (hi := 26) (offs := #[123, 186, 209, 232, 255, 298, 321, 364, 407, 450, 493, 536, 589, 642, 685, 744, 807, 840, 863, 906, 959, 992, 1025, 1058, 1071, 1104, 1137]) (off := 642) (len := 123) (by decide +kernel) 13 h13 (by decide) (by decide +kernel) (tgt := 675) rfl (lz_c13 T hL hi Z kk)
  by_cases h14 : z = 14
  · exact sv_tsI T.1.1 T.1.2.1 (dflt := 1160) (lo := 0) (hi := 26) (offs := #[123, 186, 209, 232, 255, 298, 321, 364, 407, 450, 493, 536, 589, 642, 685, 744, 807, 840, 863, 906, 959, 992, 1025, 1058, 1071, 1104, 1137]) (off := 685) (len := 123) (by decide +kernel) 14 h14 (by decide) (by decide +kernel) (tgt := 718) rfl (lz_c14 T hL hi Z kk)
  by_cases h15 : z = 15
  · exact sv_tsI T.1.1 T.1.2.1 (dflt := 1160) (lo := 0) (hi := 26) (offs := #[123, 186, 209, 232, 255, 298, 321, 364, 407, 450, 493, 536, 589, 642, 685, 744, 807, 840, 863, 906, 959, 992, 1025, 1058, 1071, 1104, 1137]) (off := 744) (len := 123) (by decide +kernel) 15 h15 (by decide) (by decide +kernel) (tgt := 777) rfl (lz_c15 T hL hi Z kk)
  by_cases h16 : z = 16
  · exact sv_tsI T.1.1 T.1.2.1 (dflt := 1160) (lo := 0) (hi := 26) (offs := #[123, 186, 209, 232, 255, 298, 321, 364, 407, 450, 493, 536, 589, 642, 685, 744, 807, 840, 863, 906, 959, 992, 1025, 1058, 1071, 1104, 1137]) (off := 807) (len := 123) (by decide +kernel) 16 h16 (by decide) (by decide +kernel) (tgt := 840) rfl (lz_c16 T hL hi Z kk)
  by_cases h17 : z = 17
  · exact sv_tsI T.1.1 T.1.2.1 (dflt := 1160) (lo := 0) (hi := 26) (offs := #[123, 186, 209, 232, 255, 298, 321, 364, 407, 450, 493, 536, 589, 642, 685, 744, 807, 840, 863, 906, 959, 992, 1025, 1058, 1071, 1104, 1137]) (off := 840) (len := 123) (by decide +kernel) 17 h17 (by decide) (by decide +kernel) (tgt := 873) rfl (lz_c17 T hL hi Z kk)
  by_cases h18 : z = 18
  · exact sv_tsI T.1.1 T.1.2.1 (dflt := 1160) (lo := 0) (hi := 26) (offs := #[123, 186, 209, 232, 255, 298, 321, 364, 407, 450, 493, 536, 589, 642, 685, 744, 807, 840, 863, 906, 959, 992, 1025, 1058, 1071, 1104, 1137]) (off := 863) (len := 123) (by decide +kernel) 18 h18 (by decide) (by decide +kernel) (tgt := 896) rfl (lz_c18 T hL hi Z kk)
  by_cases h19 : z = 19
  · exact sv_tsI T.1.1 T.1.2.1 (dflt := 1160) (lo := 0) (hi := 26) (offs := #[123, 186, 209, 232, 255, 298, 321, 364, 407, 450, 493, 536, 589, 642, 685, 744, 807, 840, 863, 906, 959, 992, 1025, 1058, 1071, 1104, 1137]) (off := 906) (len := 123) (by decide +kernel) 19 h19 (by decide) (by decide +kernel) (tgt := 939) rfl (lz_c19 T hL hi Z kk)
  by_cases h20 : z = 20
  · exact sv_tsI T.1.1 T.1.2.1 (dflt := 1160) (lo := 0) (hi := 26) (offs := #[123, 186, 209, 232, 255, 298, 321, 364, 407, 450, 493, 536, 589, 642, 685, 744, 807, 840, 863, 906, 959, 992, 1025, 1058, 1071, 1104, 1137]) (off := 959) (len := 123) (by decide +kernel) 20 h20 (by decide) (by decide +kernel) (tgt := 992) rfl (lz_c20 T hL hi Z kk)
  by_cases h21 : z = 21
  · exact sv_tsI T.1.1 T.1.2.1 (dflt := 1160) (lo := 0) (hi := 26) (offs := #[123, 186, 209, 232, 255, 298, 321, 364, 407, 450, 493, 536, 589, 642, 685, 744, 807, 840, 863, 906, 959, 992, 1025, 1058, 1071, 1104, 1137]) (off := 992) (len := 123) (by decide +kernel) 21 h21 (by decide) (by decide +kernel) (tgt := 1025) rfl (lz_c21 T hL hi Z kk)
  by_cases h22 : z = 22
  · exact sv_tsI T.1.1 T.1.2.1 (dflt := 1160) (lo := 0) (hi := 26) (offs := #[123, 186, 209, 232, 255, 298, 321, 364, 407, 450, 493, 536, 589, 642, 685, 744, 807, 840, 863, 906, 959, 992, 1025, 1058, 1071, 1104, 1137]) (off := 1025) (len := 123) (by decide +kernel) 22 h22 (by decide) (by decide +kernel) (tgt := 1058) rfl (lz_c22 T hL hi Z kk)
  by_cases h23 : z = 23
  · exact sv_tsI T.1.1 T.1.2.1 (dflt := 1160) (lo := 0) (hi := 26) (offs := #[123, 186, 209, 232, 255, 298, 321, 364, 407, 450, 493, 536, 589, 642, 685, 744, 807, 840, 863, 906, 959, 992, 1025, 1058, 1071, 1104, 1137]) (off := 1058) (len := 123) (by decide +kernel) 23 h23 (by decide) (by decide +kernel) (tgt := 1091) rfl (lz_c23 T hL hi Z kk)
  by_cases h24 : z = 24
  · exact sv_tsI T.1.1 T.1.2.1 (dflt := 1160) (lo := 0) (hi := 26) (offs := #[123, 186, 209, 232, 255, 298, 321, 364, 407, 450, 493, 536, 589, 642, 685, 744, 807, 840, 863, 906, 959, 992, 1025, 1058, 1071, 1104, 1137]) (off := 1071) (len := 123) (by decide +kernel) 24 h24 (by decide) (by decide +kernel) (tgt := 1104) rfl (lz_c24 T hL hi Z kk)
  by_cases h25 : z = 25
  · exact sv_tsI T.1.1 T.1.2.1 (dflt := 1160) (lo := 0) (hi := 26) (offs := #[123, 186, 209, 232, 255, 298, 321, 364, 407, 450, 493, 536, 589, 642, 685, 744, 807, 840, 863, 906, 959, 992, 1025, 1058, 1071, 1104, 1137]) (off := 1104) (len := 123) (by decide +kernel) 25 h25 (by decide) (by decide +kernel) (tgt := 1137) rfl (lz_c25 T hL hi Z kk)
  by_cases h26 : z = 26
  · exact sv_tsI T.1.1 T.1.2.1 (dflt := 1160) (lo := 0) (hi := 26) (offs := #[123, 186, 209, 232, 255, 298, 321, 364, 407, 450, 493, 536, 589, 642, 685, 744, 807, 840, 863, 906, 959, 992, 1025, 1058, 1071, 1104, 1137]) (off := 1137) (len := 123) (by decide +kernel) 26 h26 (by decide) (by decide +kernel) (tgt := 1170) rfl (lz_c26 T hL hi Z kk)
  exact sv_tsO T.1.1 T.1.2.1 (dflt := 1160) (lo := 0) (hi := 26) (offs := #[123, 186, 209, 232, 255, 298, 321, 364, 407, 450, 493, 536, 589, 642, 685, 744, 807, 840, 863, 906, 959, 992, 1025, 1058, 1071, 1104, 1137]) (len := 123) (by decide +kernel) hz (by omega) (tgt := 1193) rfl (kk σ Z)
set_option maxHeartbeats 4000000 in
theorem lz_loop {p : Program} {l : Launch} {e : Env} {s : State} {m : MethodId} {below : List Frame} {meth : Method} {c : Code} {g : sv_G} {A : Nat → Prop} {b L : Nat} {xs : Nat → Int32} {ty : Nat → Nat} {x mm : Nat} (T : lz_K p s m meth c g A b L xs) (hL : L ≤ 3072) : ∀ (n : Nat) (i : Int) (σ : Nat → Nat → Int), 0 ≤ i → i ≤ (L : Int) + 6 → lz_S A ty σ x mm → (L : Int) + 6 - i < n → lz_V p l e s m below meth c b A 433 29939 (sv_H g ty σ) 18 [(0, sv_r b), (1, sv_r x), (2, sv_r mm), (3, sv_i i)] [] := by
  have T0 := T
  obtain ⟨C, hX, hbl, hbA, hAs, hr⟩ := T
  intro n
  induction n with
  | zero => intro i σ h0 h1 Z hn; exact absurd hn (by omega)
  | succ n ih =>
    intro i σ h0 h1 Z hn
    refine sv_go C.1 C.2.1 [(.iload_n 3, 1), (.aload_n 0, 1)] (pc' := 20) (by decide +kernel) rfl (lv' := [(0, sv_r b), (1, sv_r x), (2, sv_r mm), (3, sv_i i)]) (st' := [sv_r b, sv_i i]) rfl ?_
    refine sv_sln C hX hbl hbA (by decide +kernel) ?_
    refine sv_go C.1 C.2.1 [(.bipush 6, 2), (.isub, 1)] (pc' := 24) (by decide +kernel) rfl (lv' := [(0, sv_r b), (1, sv_r x), (2, sv_r mm), (3, sv_i i)]) (st' := [sv_i ((L : Int) - 6), sv_i i]) rfl ?_
    refine sv_icmp C.1 C.2.1 (cnd := .gt) (off := 1175) (by decide +kernel) (tgt := 1199) rfl ⟨by omega, by omega⟩ ⟨by omega, by omega⟩ (fun _ => lz_out T0 (by decide) (by decide)) (fun h => ?_)
    have hi6 : i + 6 ≤ (L : Int) := by simp only [sv_cmp] at h; omega
    refine sv_go C.1 C.2.1 [(.aload_n 0, 1), (.iload_n 3, 1)] (pc' := 29) (by decide +kernel) rfl (lv' := [(0, sv_r b), (1, sv_r x), (2, sv_r mm), (3, sv_i i)]) (st' := [sv_i i, sv_r b]) rfl ?_
    refine sv_sld C hX hbl hbA (by omega) (j := i.toNat) (by decide +kernel) (by omega) (by omega) ?_
    refine sv_go C.1 C.2.1 [(.bipush 31, 2), (.iand, 1)] (pc' := 33) (by decide +kernel) rfl (lv' := [(0, sv_r b), (1, sv_r x), (2, sv_r mm), (3, sv_i i)]) (st' := [sv_i (Int32.ofInt (xs i.toNat).toInt &&& Int32.ofInt 31).toInt]) rfl ?_
    refine lz_switch T0 hL ⟨h0, hi6⟩ Z (fun σ2 Z2 => ?_) _ (sv_ioin _)
    refine sv_go C.1 C.2.1 [(.iinc 3 6, 3)] (pc' := 1196) (by decide +kernel) rfl (lv' := [(0, sv_r b), (1, sv_r x), (2, sv_r mm), (3, sv_i (i + 6))]) (st' := []) rfl ?_
    refine sv_goto C.1 C.2.1 (off := -1178) (by decide +kernel) (tgt := 18) rfl ?_
    exact ih (i + 6) σ2 (by omega) (by omega) Z2 (by omega)
