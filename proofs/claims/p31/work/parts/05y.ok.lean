def xmck (z : Nat) : Bool := match xm z with
  | (y, _, _, ret, _, _, _, w2, w3, w4, kd, na) => decide (lw_tbl[w2]? = some (.initialized y.cls)) && (plainName y.cls || plainFor y) && decide (y.cls ≠ "java/lang/invoke/MethodHandle") && decide (y.cls ≠ "java/lang/invoke/VarHandle") && decide ((parseMethodDescriptor y.desc).map (fun d => d.parameters.length) = some na) &&
    (bif Nat.beq kd 0 then decide (lw_tbl[w3]? = some (.static y)) else bif Nat.beq kd 1 then decide (lw_tbl[w3]? = some (.instanceMethod y)) && decide (lw_tbl[w4]? = some (.selects y.cls y y)) && (bif Nat.beq (xci z) 100 then decide (y.cls = "java/lang/String") else decide (vwCl[xci z]?.map (fun q => q.1) = some y.cls)) else decide (lw_tbl[w3]? = some (.instanceMethod y)) && decide (y.name = "<init>") && decide (ret = none))
set_option maxRecDepth 100000 in
theorem xmc_0 : lw_tbl[265]? = some (.code (xm 0).1 (xm 0).2.1 (xm 0).2.2.1 (xm 0).2.2.2.1) := rfl
set_option maxRecDepth 100000 in
theorem xmc_1 : lw_tbl[877]? = some (.code (xm 1).1 (xm 1).2.1 (xm 1).2.2.1 (xm 1).2.2.2.1) := rfl
set_option maxRecDepth 100000 in
theorem xmc_2 : lw_tbl[881]? = some (.code (xm 2).1 (xm 2).2.1 (xm 2).2.2.1 (xm 2).2.2.2.1) := rfl
set_option maxRecDepth 100000 in
theorem xmc_3 : lw_tbl[921]? = some (.code (xm 3).1 (xm 3).2.1 (xm 3).2.2.1 (xm 3).2.2.2.1) := rfl
set_option maxRecDepth 100000 in
theorem xmc_4 : lw_tbl[925]? = some (.code (xm 4).1 (xm 4).2.1 (xm 4).2.2.1 (xm 4).2.2.2.1) := rfl
set_option maxRecDepth 100000 in
theorem xmc_5 : lw_tbl[929]? = some (.code (xm 5).1 (xm 5).2.1 (xm 5).2.2.1 (xm 5).2.2.2.1) := rfl
set_option maxRecDepth 100000 in
theorem xmc_6 : lw_tbl[945]? = some (.code (xm 6).1 (xm 6).2.1 (xm 6).2.2.1 (xm 6).2.2.2.1) := rfl
set_option maxRecDepth 100000 in
theorem xmc_7 : lw_tbl[333]? = some (.code (xm 7).1 (xm 7).2.1 (xm 7).2.2.1 (xm 7).2.2.2.1) := rfl
set_option maxRecDepth 100000 in
theorem xmc_8 : lw_tbl[978]? = some (.code (xm 8).1 (xm 8).2.1 (xm 8).2.2.1 (xm 8).2.2.2.1) := rfl
set_option maxRecDepth 100000 in
theorem xmc_9 : lw_tbl[966]? = some (.code (xm 9).1 (xm 9).2.1 (xm 9).2.2.1 (xm 9).2.2.2.1) := rfl
set_option maxRecDepth 100000 in
theorem xmc_10 : lw_tbl[970]? = some (.code (xm 10).1 (xm 10).2.1 (xm 10).2.2.1 (xm 10).2.2.2.1) := rfl
set_option maxRecDepth 100000 in
theorem xmc_11 : lw_tbl[983]? = some (.code (xm 11).1 (xm 11).2.1 (xm 11).2.2.1 (xm 11).2.2.2.1) := rfl
set_option maxRecDepth 100000 in
theorem xmc_12 : lw_tbl[995]? = some (.code (xm 12).1 (xm 12).2.1 (xm 12).2.2.1 (xm 12).2.2.2.1) := rfl
set_option maxRecDepth 100000 in
theorem xmc_13 : lw_tbl[991]? = some (.code (xm 13).1 (xm 13).2.1 (xm 13).2.2.1 (xm 13).2.2.2.1) := rfl
set_option maxRecDepth 100000 in
theorem xmc_14 : lw_tbl[999]? = some (.code (xm 14).1 (xm 14).2.1 (xm 14).2.2.1 (xm 14).2.2.2.1) := rfl
set_option maxRecDepth 100000 in
theorem xmc_15 : lw_tbl[1004]? = some (.code (xm 15).1 (xm 15).2.1 (xm 15).2.2.1 (xm 15).2.2.2.1) := rfl
set_option maxRecDepth 100000 in
theorem xmc_16 : lw_tbl[84]? = some (.code (xm 16).1 (xm 16).2.1 (xm 16).2.2.1 (xm 16).2.2.2.1) := rfl
set_option maxRecDepth 100000 in
theorem xmc_17 : lw_tbl[423]? = some (.code (xm 17).1 (xm 17).2.1 (xm 17).2.2.1 (xm 17).2.2.2.1) := rfl
set_option maxRecDepth 100000 in
theorem xmc_18 : lw_tbl[428]? = some (.code (xm 18).1 (xm 18).2.1 (xm 18).2.2.1 (xm 18).2.2.2.1) := rfl
set_option maxRecDepth 100000 in
theorem xmc_19 : lw_tbl[432]? = some (.code (xm 19).1 (xm 19).2.1 (xm 19).2.2.1 (xm 19).2.2.2.1) := rfl
set_option maxRecDepth 100000 in
theorem xmc_20 : lw_tbl[440]? = some (.code (xm 20).1 (xm 20).2.1 (xm 20).2.2.1 (xm 20).2.2.2.1) := rfl
set_option maxRecDepth 100000 in
theorem xmc_21 : lw_tbl[444]? = some (.code (xm 21).1 (xm 21).2.1 (xm 21).2.2.1 (xm 21).2.2.2.1) := rfl
set_option maxRecDepth 100000 in
theorem xmc_22 : lw_tbl[452]? = some (.code (xm 22).1 (xm 22).2.1 (xm 22).2.2.1 (xm 22).2.2.2.1) := rfl
set_option maxRecDepth 100000 in
theorem xmc_23 : lw_tbl[214]? = some (.code (xm 23).1 (xm 23).2.1 (xm 23).2.2.1 (xm 23).2.2.2.1) := rfl
set_option maxRecDepth 100000 in
theorem xmc_24 : lw_tbl[860]? = some (.code (xm 24).1 (xm 24).2.1 (xm 24).2.2.1 (xm 24).2.2.2.1) := rfl
set_option maxRecDepth 100000 in
theorem xmc_25 : lw_tbl[768]? = some (.code (xm 25).1 (xm 25).2.1 (xm 25).2.2.1 (xm 25).2.2.2.1) := rfl
set_option maxRecDepth 100000 in
theorem xmc_26 : lw_tbl[744]? = some (.code (xm 26).1 (xm 26).2.1 (xm 26).2.2.1 (xm 26).2.2.2.1) := rfl
set_option maxRecDepth 100000 in
theorem xmc_27 : lw_tbl[740]? = some (.code (xm 27).1 (xm 27).2.1 (xm 27).2.2.1 (xm 27).2.2.2.1) := rfl
set_option maxRecDepth 100000 in
theorem xmc_28 : lw_tbl[756]? = some (.code (xm 28).1 (xm 28).2.1 (xm 28).2.2.1 (xm 28).2.2.2.1) := rfl
set_option maxRecDepth 100000 in
theorem xmc_29 : lw_tbl[772]? = some (.code (xm 29).1 (xm 29).2.1 (xm 29).2.2.1 (xm 29).2.2.2.1) := rfl
set_option maxRecDepth 100000 in
theorem xmc_30 : lw_tbl[852]? = some (.code (xm 30).1 (xm 30).2.1 (xm 30).2.2.1 (xm 30).2.2.2.1) := rfl
set_option maxRecDepth 100000 in
theorem xmc_31 : lw_tbl[797]? = some (.code (xm 31).1 (xm 31).2.1 (xm 31).2.2.1 (xm 31).2.2.2.1) := rfl
set_option maxRecDepth 100000 in
theorem xmc_32 : lw_tbl[801]? = some (.code (xm 32).1 (xm 32).2.1 (xm 32).2.2.1 (xm 32).2.2.2.1) := rfl
set_option maxRecDepth 100000 in
theorem xmc_33 : lw_tbl[786]? = some (.code (xm 33).1 (xm 33).2.1 (xm 33).2.2.1 (xm 33).2.2.2.1) := rfl
set_option maxRecDepth 100000 in
theorem xmc_34 : lw_tbl[790]? = some (.code (xm 34).1 (xm 34).2.1 (xm 34).2.2.1 (xm 34).2.2.2.1) := rfl
set_option maxRecDepth 100000 in
theorem xmc_35 : lw_tbl[355]? = some (.code (xm 35).1 (xm 35).2.1 (xm 35).2.2.1 (xm 35).2.2.2.1) := rfl
set_option maxRecDepth 100000 in
theorem xmc_36 : lw_tbl[726]? = some (.code (xm 36).1 (xm 36).2.1 (xm 36).2.2.1 (xm 36).2.2.2.1) := rfl
set_option maxRecDepth 100000 in
theorem xmc_37 : lw_tbl[1017]? = some (.code (xm 37).1 (xm 37).2.1 (xm 37).2.2.1 (xm 37).2.2.2.1) := rfl
set_option maxRecDepth 100000 in
theorem xmc_38 : lw_tbl[1021]? = some (.code (xm 38).1 (xm 38).2.1 (xm 38).2.2.1 (xm 38).2.2.2.1) := rfl
set_option maxRecDepth 100000 in
theorem xmc_39 : lw_tbl[1029]? = some (.code (xm 39).1 (xm 39).2.1 (xm 39).2.2.1 (xm 39).2.2.2.1) := rfl
set_option maxRecDepth 100000 in
theorem xmc_40 : lw_tbl[1038]? = some (.code (xm 40).1 (xm 40).2.1 (xm 40).2.2.1 (xm 40).2.2.2.1) := rfl
set_option maxRecDepth 100000 in
theorem xmc_41 : lw_tbl[702]? = some (.code (xm 41).1 (xm 41).2.1 (xm 41).2.2.1 (xm 41).2.2.2.1) := rfl
set_option maxRecDepth 100000 in
theorem xmc_42 : lw_tbl[1058]? = some (.code (xm 42).1 (xm 42).2.1 (xm 42).2.2.1 (xm 42).2.2.2.1) := rfl
set_option maxRecDepth 100000 in
theorem xmc_43 : lw_tbl[1046]? = some (.code (xm 43).1 (xm 43).2.1 (xm 43).2.2.1 (xm 43).2.2.2.1) := rfl
set_option maxRecDepth 100000 in
theorem xmc_44 : lw_tbl[179]? = some (.code (xm 44).1 (xm 44).2.1 (xm 44).2.2.1 (xm 44).2.2.2.1) := rfl
set_option maxRecDepth 100000 in
theorem xmc_45 : lw_tbl[558]? = some (.code (xm 45).1 (xm 45).2.1 (xm 45).2.2.1 (xm 45).2.2.2.1) := rfl
set_option maxRecDepth 100000 in
theorem xmc_46 : lw_tbl[562]? = some (.code (xm 46).1 (xm 46).2.1 (xm 46).2.2.1 (xm 46).2.2.2.1) := rfl
set_option maxRecDepth 100000 in
theorem xmc_47 : lw_tbl[655]? = some (.code (xm 47).1 (xm 47).2.1 (xm 47).2.2.1 (xm 47).2.2.2.1) := rfl
set_option maxRecDepth 100000 in
theorem xmc_48 : lw_tbl[675]? = some (.code (xm 48).1 (xm 48).2.1 (xm 48).2.2.1 (xm 48).2.2.2.1) := rfl
set_option maxRecDepth 100000 in
theorem xmc_49 : lw_tbl[706]? = some (.code (xm 49).1 (xm 49).2.1 (xm 49).2.2.1 (xm 49).2.2.2.1) := rfl
set_option maxRecDepth 100000 in
theorem xmc_50 : lw_tbl[710]? = some (.code (xm 50).1 (xm 50).2.1 (xm 50).2.2.1 (xm 50).2.2.2.1) := rfl
set_option maxRecDepth 100000 in
theorem xmc_51 : lw_tbl[714]? = some (.code (xm 51).1 (xm 51).2.1 (xm 51).2.2.1 (xm 51).2.2.2.1) := rfl
set_option maxRecDepth 100000 in
theorem xmc_52 : lw_tbl[736]? = some (.code (xm 52).1 (xm 52).2.1 (xm 52).2.2.1 (xm 52).2.2.2.1) := rfl
set_option maxRecDepth 100000 in
theorem xmc_53 : lw_tbl[748]? = some (.code (xm 53).1 (xm 53).2.1 (xm 53).2.2.1 (xm 53).2.2.2.1) := rfl
set_option maxRecDepth 100000 in
theorem xmc_54 : lw_tbl[752]? = some (.code (xm 54).1 (xm 54).2.1 (xm 54).2.2.1 (xm 54).2.2.2.1) := rfl
set_option maxRecDepth 100000 in
theorem xmc_55 : lw_tbl[245]? = some (.code (xm 55).1 (xm 55).2.1 (xm 55).2.2.1 (xm 55).2.2.2.1) := rfl
set_option maxRecDepth 100000 in
theorem xmc_56 : lw_tbl[817]? = some (.code (xm 56).1 (xm 56).2.1 (xm 56).2.2.1 (xm 56).2.2.2.1) := rfl
set_option maxRecDepth 100000 in
theorem xmc_57 : lw_tbl[821]? = some (.code (xm 57).1 (xm 57).2.1 (xm 57).2.2.1 (xm 57).2.2.2.1) := rfl
set_option maxRecDepth 100000 in
theorem xmc_58 : lw_tbl[836]? = some (.code (xm 58).1 (xm 58).2.1 (xm 58).2.2.1 (xm 58).2.2.2.1) := rfl
set_option maxRecDepth 100000 in
theorem xmc_59 : lw_tbl[840]? = some (.code (xm 59).1 (xm 59).2.1 (xm 59).2.2.1 (xm 59).2.2.2.1) := rfl
set_option maxRecDepth 100000 in
theorem xmc_60 : lw_tbl[844]? = some (.code (xm 60).1 (xm 60).2.1 (xm 60).2.2.1 (xm 60).2.2.2.1) := rfl
set_option maxRecDepth 100000 in
theorem xmc_61 : lw_tbl[848]? = some (.code (xm 61).1 (xm 61).2.1 (xm 61).2.2.1 (xm 61).2.2.2.1) := rfl
set_option maxRecDepth 100000 in
theorem xmc_62 : lw_tbl[111]? = some (.code (xm 62).1 (xm 62).2.1 (xm 62).2.2.1 (xm 62).2.2.2.1) := rfl
set_option maxRecDepth 100000 in
theorem xmc_63 : lw_tbl[485]? = some (.code (xm 63).1 (xm 63).2.1 (xm 63).2.2.1 (xm 63).2.2.2.1) := rfl
set_option maxRecDepth 100000 in
theorem xmc_64 : lw_tbl[467]? = some (.code (xm 64).1 (xm 64).2.1 (xm 64).2.2.1 (xm 64).2.2.2.1) := rfl
set_option maxRecDepth 100000 in
theorem xmc_65 : lw_tbl[477]? = some (.code (xm 65).1 (xm 65).2.1 (xm 65).2.2.1 (xm 65).2.2.2.1) := rfl
set_option maxRecDepth 100000 in
theorem xmc_66 : lw_tbl[492]? = some (.code (xm 66).1 (xm 66).2.1 (xm 66).2.2.1 (xm 66).2.2.2.1) := rfl
set_option maxRecDepth 100000 in
theorem xmc_67 : lw_tbl[731]? = some (.code (xm 67).1 (xm 67).2.1 (xm 67).2.2.1 (xm 67).2.2.2.1) := rfl
set_option maxRecDepth 100000 in
theorem xmc_68 : lw_tbl[496]? = some (.code (xm 68).1 (xm 68).2.1 (xm 68).2.2.1 (xm 68).2.2.2.1) := rfl
set_option maxRecDepth 100000 in
theorem xmc_69 : lw_tbl[513]? = some (.code (xm 69).1 (xm 69).2.1 (xm 69).2.2.1 (xm 69).2.2.2.1) := rfl
set_option maxRecDepth 100000 in
theorem xmc_70 : lw_tbl[517]? = some (.code (xm 70).1 (xm 70).2.1 (xm 70).2.2.1 (xm 70).2.2.2.1) := rfl
set_option maxRecDepth 100000 in
theorem xmc_71 : lw_tbl[533]? = some (.code (xm 71).1 (xm 71).2.1 (xm 71).2.2.1 (xm 71).2.2.2.1) := rfl
set_option maxRecDepth 100000 in
theorem xmc_72 : lw_tbl[537]? = some (.code (xm 72).1 (xm 72).2.1 (xm 72).2.2.1 (xm 72).2.2.2.1) := rfl
set_option maxRecDepth 100000 in
theorem xmc_73 : lw_tbl[781]? = some (.code (xm 73).1 (xm 73).2.1 (xm 73).2.2.1 (xm 73).2.2.2.1) := rfl
set_option maxRecDepth 100000 in
theorem xmc_74 : lw_tbl[776]? = some (.code (xm 74).1 (xm 74).2.1 (xm 74).2.2.1 (xm 74).2.2.2.1) := rfl
set_option maxRecDepth 100000 in
theorem xmc_75 : lw_tbl[764]? = some (.code (xm 75).1 (xm 75).2.1 (xm 75).2.2.1 (xm 75).2.2.2.1) := rfl
set_option maxRecDepth 100000 in
theorem xmc_76 : lw_tbl[889]? = some (.code (xm 76).1 (xm 76).2.1 (xm 76).2.2.1 (xm 76).2.2.2.1) := rfl
set_option maxRecDepth 100000 in
theorem xmc_77 : lw_tbl[271]? = some (.code (xm 77).1 (xm 77).2.1 (xm 77).2.2.1 (xm 77).2.2.2.1) := rfl
set_option maxRecDepth 100000 in
theorem xmc_78 : lw_tbl[695]? = some (.code (xm 78).1 (xm 78).2.1 (xm 78).2.2.1 (xm 78).2.2.2.1) := rfl
set_option maxRecDepth 100000 in
theorem xmc_79 : lw_tbl[950]? = some (.code (xm 79).1 (xm 79).2.1 (xm 79).2.2.1 (xm 79).2.2.2.1) := rfl
set_option maxRecDepth 100000 in
theorem xmc_80 : lw_tbl[885]? = some (.code (xm 80).1 (xm 80).2.1 (xm 80).2.2.1 (xm 80).2.2.2.1) := rfl
set_option maxRecDepth 100000 in
theorem xmc_81 : lw_tbl[893]? = some (.code (xm 81).1 (xm 81).2.1 (xm 81).2.2.1 (xm 81).2.2.2.1) := rfl
set_option maxRecDepth 100000 in
theorem xmc_82 : lw_tbl[897]? = some (.code (xm 82).1 (xm 82).2.1 (xm 82).2.2.1 (xm 82).2.2.2.1) := rfl
set_option maxRecDepth 100000 in
theorem xmc_83 : lw_tbl[904]? = some (.code (xm 83).1 (xm 83).2.1 (xm 83).2.2.1 (xm 83).2.2.2.1) := rfl
set_option maxRecDepth 100000 in
theorem xmc_84 : lw_tbl[900]? = some (.code (xm 84).1 (xm 84).2.1 (xm 84).2.2.1 (xm 84).2.2.2.1) := rfl
set_option maxRecDepth 100000 in
theorem xmc_85 : lw_tbl[933]? = some (.code (xm 85).1 (xm 85).2.1 (xm 85).2.2.1 (xm 85).2.2.2.1) := rfl
set_option maxRecDepth 100000 in
theorem xmc_86 : lw_tbl[159]? = some (.code (xm 86).1 (xm 86).2.1 (xm 86).2.2.1 (xm 86).2.2.2.1) := rfl
set_option maxRecDepth 100000 in
theorem xmc_87 : lw_tbl[545]? = some (.code (xm 87).1 (xm 87).2.1 (xm 87).2.2.1 (xm 87).2.2.2.1) := rfl
set_option maxRecDepth 100000 in
theorem xmc_88 : lw_tbl[549]? = some (.code (xm 88).1 (xm 88).2.1 (xm 88).2.2.1 (xm 88).2.2.2.1) := rfl
set_option maxRecDepth 100000 in
theorem xmc_89 : lw_tbl[671]? = some (.code (xm 89).1 (xm 89).2.1 (xm 89).2.2.1 (xm 89).2.2.2.1) := rfl
set_option maxRecDepth 100000 in
theorem xmc_90 : lw_tbl[566]? = some (.code (xm 90).1 (xm 90).2.1 (xm 90).2.2.1 (xm 90).2.2.2.1) := rfl
set_option maxRecDepth 100000 in
theorem xmc_91 : lw_tbl[679]? = some (.code (xm 91).1 (xm 91).2.1 (xm 91).2.2.1 (xm 91).2.2.2.1) := rfl
set_option maxRecDepth 100000 in
theorem xmc_92 : lw_tbl[650]? = some (.code (xm 92).1 (xm 92).2.1 (xm 92).2.2.1 (xm 92).2.2.2.1) := rfl
set_option maxRecDepth 100000 in
theorem xmc_93 : lw_tbl[667]? = some (.code (xm 93).1 (xm 93).2.1 (xm 93).2.2.1 (xm 93).2.2.2.1) := rfl
set_option maxRecDepth 100000 in
theorem xmc_94 : lw_tbl[575]? = some (.code (xm 94).1 (xm 94).2.1 (xm 94).2.2.1 (xm 94).2.2.2.1) := rfl
set_option maxRecDepth 100000 in
theorem xmc_95 : lw_tbl[634]? = some (.code (xm 95).1 (xm 95).2.1 (xm 95).2.2.1 (xm 95).2.2.2.1) := rfl
set_option maxRecDepth 100000 in
theorem xmc_96 : lw_tbl[639]? = some (.code (xm 96).1 (xm 96).2.1 (xm 96).2.2.1 (xm 96).2.2.2.1) := rfl
set_option maxRecDepth 100000 in
theorem xmc_97 : lw_tbl[571]? = some (.code (xm 97).1 (xm 97).2.1 (xm 97).2.2.1 (xm 97).2.2.2.1) := rfl
set_option maxRecDepth 100000 in
theorem xmc_98 : lw_tbl[626]? = some (.code (xm 98).1 (xm 98).2.1 (xm 98).2.2.1 (xm 98).2.2.2.1) := rfl
set_option maxRecDepth 100000 in
theorem xmc_99 : lw_tbl[630]? = some (.code (xm 99).1 (xm 99).2.1 (xm 99).2.2.1 (xm 99).2.2.2.1) := rfl
set_option maxRecDepth 100000 in
theorem xmc_100 : lw_tbl[643]? = some (.code (xm 100).1 (xm 100).2.1 (xm 100).2.2.1 (xm 100).2.2.2.1) := rfl
set_option maxRecDepth 100000 in
theorem xmc_101 : lw_tbl[661]? = some (.code (xm 101).1 (xm 101).2.1 (xm 101).2.2.1 (xm 101).2.2.2.1) := rfl
set_option maxRecDepth 100000 in
theorem xmc_102 : lw_tbl[76]? = some (.code (xm 102).1 (xm 102).2.1 (xm 102).2.2.1 (xm 102).2.2.2.1) := rfl
set_option maxRecDepth 100000 in
theorem xmc_103 : lw_tbl[413]? = some (.code (xm 103).1 (xm 103).2.1 (xm 103).2.2.1 (xm 103).2.2.2.1) := rfl
set_option maxRecDepth 100000 in
theorem xmc_104 : lw_tbl[436]? = some (.code (xm 104).1 (xm 104).2.1 (xm 104).2.2.1 (xm 104).2.2.2.1) := rfl
set_option maxRecDepth 100000 in
theorem xmc_105 : lw_tbl[448]? = some (.code (xm 105).1 (xm 105).2.1 (xm 105).2.2.1 (xm 105).2.2.2.1) := rfl
set_option maxRecDepth 100000 in
theorem xmc_106 : lw_tbl[460]? = some (.code (xm 106).1 (xm 106).2.1 (xm 106).2.2.1 (xm 106).2.2.2.1) := rfl
set_option maxRecDepth 100000 in
theorem xmc_107 : lw_tbl[502]? = some (.code (xm 107).1 (xm 107).2.1 (xm 107).2.2.1 (xm 107).2.2.2.1) := rfl
set_option maxRecDepth 100000 in
theorem xmc_108 : lw_tbl[509]? = some (.code (xm 108).1 (xm 108).2.1 (xm 108).2.2.1 (xm 108).2.2.2.1) := rfl
set_option maxRecDepth 100000 in
theorem xmc_109 : lw_tbl[521]? = some (.code (xm 109).1 (xm 109).2.1 (xm 109).2.2.1 (xm 109).2.2.2.1) := rfl
set_option maxRecDepth 100000 in
theorem xmc_110 : lw_tbl[525]? = some (.code (xm 110).1 (xm 110).2.1 (xm 110).2.2.1 (xm 110).2.2.2.1) := rfl
set_option maxRecDepth 100000 in
theorem xmc_111 : lw_tbl[529]? = some (.code (xm 111).1 (xm 111).2.1 (xm 111).2.2.1 (xm 111).2.2.2.1) := rfl
set_option maxRecDepth 100000 in
theorem xmc_112 : lw_tbl[541]? = some (.code (xm 112).1 (xm 112).2.1 (xm 112).2.2.1 (xm 112).2.2.2.1) := rfl
set_option maxRecDepth 100000 in
theorem xmc_113 : lw_tbl[554]? = some (.code (xm 113).1 (xm 113).2.1 (xm 113).2.2.1 (xm 113).2.2.2.1) := rfl
set_option maxRecDepth 100000 in
theorem xmc_114 : lw_tbl[684]? = some (.code (xm 114).1 (xm 114).2.1 (xm 114).2.2.1 (xm 114).2.2.2.1) := rfl
set_option maxRecDepth 100000 in
theorem xmc_115 : lw_tbl[718]? = some (.code (xm 115).1 (xm 115).2.1 (xm 115).2.2.1 (xm 115).2.2.2.1) := rfl
set_option maxRecDepth 100000 in
theorem xmc_116 : lw_tbl[760]? = some (.code (xm 116).1 (xm 116).2.1 (xm 116).2.2.1 (xm 116).2.2.2.1) := rfl
set_option maxRecDepth 100000 in
theorem xmc_117 : lw_tbl[856]? = some (.code (xm 117).1 (xm 117).2.1 (xm 117).2.2.1 (xm 117).2.2.2.1) := rfl
set_option maxRecDepth 100000 in
theorem xmc_118 : lw_tbl[865]? = some (.code (xm 118).1 (xm 118).2.1 (xm 118).2.2.1 (xm 118).2.2.2.1) := rfl
set_option maxRecDepth 100000 in
theorem xmc_119 : lw_tbl[869]? = some (.code (xm 119).1 (xm 119).2.1 (xm 119).2.2.1 (xm 119).2.2.2.1) := rfl
set_option maxRecDepth 100000 in
theorem xmc_120 : lw_tbl[873]? = some (.code (xm 120).1 (xm 120).2.1 (xm 120).2.2.1 (xm 120).2.2.2.1) := rfl
set_option maxRecDepth 100000 in
theorem xmc_121 : lw_tbl[913]? = some (.code (xm 121).1 (xm 121).2.1 (xm 121).2.2.1 (xm 121).2.2.2.1) := rfl
set_option maxRecDepth 100000 in
theorem xmc_122 : lw_tbl[917]? = some (.code (xm 122).1 (xm 122).2.1 (xm 122).2.2.1 (xm 122).2.2.2.1) := rfl
set_option maxRecDepth 100000 in
theorem xmc_123 : lw_tbl[937]? = some (.code (xm 123).1 (xm 123).2.1 (xm 123).2.2.1 (xm 123).2.2.2.1) := rfl
set_option maxRecDepth 100000 in
theorem xmc_124 : lw_tbl[941]? = some (.code (xm 124).1 (xm 124).2.1 (xm 124).2.2.1 (xm 124).2.2.2.1) := rfl
set_option maxRecDepth 100000 in
theorem xmc_125 : lw_tbl[955]? = some (.code (xm 125).1 (xm 125).2.1 (xm 125).2.2.1 (xm 125).2.2.2.1) := rfl
set_option maxRecDepth 100000 in
theorem xmc_126 : lw_tbl[962]? = some (.code (xm 126).1 (xm 126).2.1 (xm 126).2.2.1 (xm 126).2.2.2.1) := rfl
set_option maxRecDepth 100000 in
theorem xmc_127 : lw_tbl[974]? = some (.code (xm 127).1 (xm 127).2.1 (xm 127).2.2.1 (xm 127).2.2.2.1) := rfl
set_option maxRecDepth 100000 in
theorem xmc_128 : lw_tbl[987]? = some (.code (xm 128).1 (xm 128).2.1 (xm 128).2.2.1 (xm 128).2.2.2.1) := rfl
set_option maxRecDepth 100000 in
theorem xmc_129 : lw_tbl[1009]? = some (.code (xm 129).1 (xm 129).2.1 (xm 129).2.2.1 (xm 129).2.2.2.1) := rfl
set_option maxRecDepth 100000 in
theorem xmc_130 : lw_tbl[1013]? = some (.code (xm 130).1 (xm 130).2.1 (xm 130).2.2.1 (xm 130).2.2.2.1) := rfl
set_option maxRecDepth 100000 in
theorem xmc_131 : lw_tbl[1025]? = some (.code (xm 131).1 (xm 131).2.1 (xm 131).2.2.1 (xm 131).2.2.2.1) := rfl
set_option maxRecDepth 100000 in
theorem xmc_132 : lw_tbl[1034]? = some (.code (xm 132).1 (xm 132).2.1 (xm 132).2.2.1 (xm 132).2.2.2.1) := rfl
set_option maxRecDepth 100000 in
theorem xmc_133 : lw_tbl[1042]? = some (.code (xm 133).1 (xm 133).2.1 (xm 133).2.2.1 (xm 133).2.2.2.1) := rfl
set_option maxRecDepth 100000 in
theorem xmc_134 : lw_tbl[1050]? = some (.code (xm 134).1 (xm 134).2.1 (xm 134).2.2.1 (xm 134).2.2.2.1) := rfl
set_option maxRecDepth 100000 in
theorem xmc_135 : lw_tbl[1054]? = some (.code (xm 135).1 (xm 135).2.1 (xm 135).2.2.1 (xm 135).2.2.2.1) := rfl
set_option maxRecDepth 100000 in
theorem xmc_136 : lw_tbl[419]? = some (.code (xm 136).1 (xm 136).2.1 (xm 136).2.2.1 (xm 136).2.2.2.1) := rfl
set_option maxRecDepth 100000 in
theorem xmc_137 : lw_tbl[416]? = some (.code (xm 137).1 (xm 137).2.1 (xm 137).2.2.1 (xm 137).2.2.2.1) := rfl
set_option maxRecDepth 100000 in
theorem xmc_138 : lw_tbl[473]? = some (.code (xm 138).1 (xm 138).2.1 (xm 138).2.2.1 (xm 138).2.2.2.1) := rfl
set_option maxRecDepth 100000 in
theorem xmc_139 : lw_tbl[687]? = some (.code (xm 139).1 (xm 139).2.1 (xm 139).2.2.1 (xm 139).2.2.2.1) := rfl
set_option maxRecDepth 100000 in
theorem xmc_140 : lw_tbl[958]? = some (.code (xm 140).1 (xm 140).2.1 (xm 140).2.2.1 (xm 140).2.2.2.1) := rfl
set_option maxRecDepth 100000 in
theorem xmc_141 : lw_tbl[456]? = some (.code (xm 141).1 (xm 141).2.1 (xm 141).2.2.1 (xm 141).2.2.2.1) := rfl
set_option maxRecDepth 100000 in
theorem xmc_142 : lw_tbl[505]? = some (.code (xm 142).1 (xm 142).2.1 (xm 142).2.2.1 (xm 142).2.2.2.1) := rfl
set_option maxRecDepth 100000 in
theorem xmc_143 : lw_tbl[793]? = some (.code (xm 143).1 (xm 143).2.1 (xm 143).2.2.1 (xm 143).2.2.2.1) := rfl
set_option maxRecDepth 100000 in
theorem xmc_144 : lw_tbl[464]? = some (.code (xm 144).1 (xm 144).2.1 (xm 144).2.2.1 (xm 144).2.2.2.1) := rfl
set_option maxRecDepth 100000 in
theorem xmc_145 : lw_tbl[482]? = some (.code (xm 145).1 (xm 145).2.1 (xm 145).2.2.1 (xm 145).2.2.2.1) := rfl
set_option maxRecDepth 100000 in
theorem xmc_146 : lw_tbl[722]? = some (.code (xm 146).1 (xm 146).2.1 (xm 146).2.2.1 (xm 146).2.2.2.1) := rfl
set_option maxRecDepth 100000 in
theorem xmc_147 : lw_tbl[691]? = some (.code (xm 147).1 (xm 147).2.1 (xm 147).2.2.1 (xm 147).2.2.2.1) := rfl
set_option maxRecDepth 100000 in
theorem xmc_148 : lw_tbl[805]? = some (.code (xm 148).1 (xm 148).2.1 (xm 148).2.2.1 (xm 148).2.2.2.1) := rfl
set_option maxRecDepth 100000 in
theorem xmc_149 : lw_tbl[809]? = some (.code (xm 149).1 (xm 149).2.1 (xm 149).2.2.1 (xm 149).2.2.2.1) := rfl
set_option maxRecDepth 100000 in
theorem xmc_150 : lw_tbl[828]? = some (.code (xm 150).1 (xm 150).2.1 (xm 150).2.2.1 (xm 150).2.2.2.1) := rfl
set_option maxRecDepth 100000 in
theorem xmc_151 : lw_tbl[813]? = some (.code (xm 151).1 (xm 151).2.1 (xm 151).2.2.1 (xm 151).2.2.2.1) := rfl
set_option maxRecDepth 100000 in
theorem xmc_152 : lw_tbl[832]? = some (.code (xm 152).1 (xm 152).2.1 (xm 152).2.2.1 (xm 152).2.2.2.1) := rfl
set_option maxRecDepth 100000 in
theorem xmc_153 : lw_tbl[1063]? = some (.code (xm 153).1 (xm 153).2.1 (xm 153).2.2.1 (xm 153).2.2.2.1) := rfl
set_option maxRecDepth 100000 in
theorem xmc_154 : lw_tbl[1255]? = some (.code (xm 154).1 (xm 154).2.1 (xm 154).2.2.1 (xm 154).2.2.2.1) := rfl
set_option maxRecDepth 100000 in
theorem xmc_155 : lw_tbl[1259]? = some (.code (xm 155).1 (xm 155).2.1 (xm 155).2.2.1 (xm 155).2.2.2.1) := rfl
set_option maxRecDepth 100000 in
theorem xmc_156 : lw_tbl[1251]? = some (.code (xm 156).1 (xm 156).2.1 (xm 156).2.2.1 (xm 156).2.2.2.1) := rfl
set_option maxRecDepth 100000 in
theorem xmc_157 : lw_tbl[1248]? = some (.code (xm 157).1 (xm 157).2.1 (xm 157).2.2.1 (xm 157).2.2.2.1) := rfl
set_option maxRecDepth 100000 in
theorem xmc_158 : lw_tbl[1265]? = some (.code (xm 158).1 (xm 158).2.1 (xm 158).2.2.1 (xm 158).2.2.2.1) := rfl
set_option maxRecDepth 100000 in
theorem xmc_159 : lw_tbl[1273]? = some (.code (xm 159).1 (xm 159).2.1 (xm 159).2.2.1 (xm 159).2.2.2.1) := rfl
set_option maxRecDepth 100000 in
theorem xmc_160 : lw_tbl[1269]? = some (.code (xm 160).1 (xm 160).2.1 (xm 160).2.2.1 (xm 160).2.2.2.1) := rfl
set_option maxRecDepth 100000 in
theorem xmc_161 : lw_tbl[1281]? = some (.code (xm 161).1 (xm 161).2.1 (xm 161).2.2.1 (xm 161).2.2.2.1) := rfl
set_option maxRecDepth 100000 in
theorem xmc_162 : lw_tbl[1277]? = some (.code (xm 162).1 (xm 162).2.1 (xm 162).2.2.1 (xm 162).2.2.2.1) := rfl
set_option maxRecDepth 100000 in
theorem xmc_163 : lw_tbl[1287]? = some (.code (xm 163).1 (xm 163).2.1 (xm 163).2.2.1 (xm 163).2.2.2.1) := rfl
set_option maxRecDepth 100000 in
theorem xmc_164 : lw_tbl[1291]? = some (.code (xm 164).1 (xm 164).2.1 (xm 164).2.2.1 (xm 164).2.2.2.1) := rfl
set_option maxRecDepth 100000 in
theorem xmc_165 : lw_tbl[1295]? = some (.code (xm 165).1 (xm 165).2.1 (xm 165).2.2.1 (xm 165).2.2.2.1) := rfl
set_option maxRecDepth 100000 in
theorem xmc_166 : lw_tbl[1299]? = some (.code (xm 166).1 (xm 166).2.1 (xm 166).2.2.1 (xm 166).2.2.2.1) := rfl
set_option maxRecDepth 100000 in
theorem xmc_167 : lw_tbl[1311]? = some (.code (xm 167).1 (xm 167).2.1 (xm 167).2.2.1 (xm 167).2.2.2.1) := rfl
set_option maxRecDepth 100000 in
theorem xmc_168 : lw_tbl[1307]? = some (.code (xm 168).1 (xm 168).2.1 (xm 168).2.2.1 (xm 168).2.2.2.1) := rfl
set_option maxRecDepth 100000 in
theorem xmc_169 : lw_tbl[1315]? = some (.code (xm 169).1 (xm 169).2.1 (xm 169).2.2.1 (xm 169).2.2.2.1) := rfl
set_option maxRecDepth 100000 in
theorem xmc_170 : lw_tbl[1391]? = some (.code (xm 170).1 (xm 170).2.1 (xm 170).2.2.1 (xm 170).2.2.2.1) := rfl
set_option maxRecDepth 100000 in
theorem xmc_171 : lw_tbl[1303]? = some (.code (xm 171).1 (xm 171).2.1 (xm 171).2.2.1 (xm 171).2.2.2.1) := rfl
set_option maxRecDepth 100000 in
theorem xmc_172 : lw_tbl[1319]? = some (.code (xm 172).1 (xm 172).2.1 (xm 172).2.2.1 (xm 172).2.2.2.1) := rfl
set_option maxRecDepth 100000 in
theorem xmc_173 : lw_tbl[1341]? = some (.code (xm 173).1 (xm 173).2.1 (xm 173).2.2.1 (xm 173).2.2.2.1) := rfl
set_option maxRecDepth 100000 in
theorem xmc_174 : lw_tbl[1337]? = some (.code (xm 174).1 (xm 174).2.1 (xm 174).2.2.1 (xm 174).2.2.2.1) := rfl
set_option maxRecDepth 100000 in
theorem xmc_175 : lw_tbl[1332]? = some (.code (xm 175).1 (xm 175).2.1 (xm 175).2.2.1 (xm 175).2.2.2.1) := rfl
set_option maxRecDepth 100000 in
theorem xmc_176 : lw_tbl[1349]? = some (.code (xm 176).1 (xm 176).2.1 (xm 176).2.2.1 (xm 176).2.2.2.1) := rfl
set_option maxRecDepth 100000 in
theorem xmc_177 : lw_tbl[1346]? = some (.code (xm 177).1 (xm 177).2.1 (xm 177).2.2.1 (xm 177).2.2.2.1) := rfl
set_option maxRecDepth 100000 in
theorem xmc_178 : lw_tbl[1357]? = some (.code (xm 178).1 (xm 178).2.1 (xm 178).2.2.1 (xm 178).2.2.2.1) := rfl
set_option maxRecDepth 100000 in
theorem xmc_179 : lw_tbl[1328]? = some (.code (xm 179).1 (xm 179).2.1 (xm 179).2.2.1 (xm 179).2.2.2.1) := rfl
set_option maxRecDepth 100000 in
theorem xmc_180 : lw_tbl[1324]? = some (.code (xm 180).1 (xm 180).2.1 (xm 180).2.2.1 (xm 180).2.2.2.1) := rfl
set_option maxRecDepth 100000 in
theorem xmc_181 : lw_tbl[1374]? = some (.code (xm 181).1 (xm 181).2.1 (xm 181).2.2.1 (xm 181).2.2.2.1) := rfl
set_option maxRecDepth 100000 in
theorem xmc_182 : lw_tbl[1370]? = some (.code (xm 182).1 (xm 182).2.1 (xm 182).2.2.1 (xm 182).2.2.2.1) := rfl
set_option maxRecDepth 100000 in
theorem xmc_183 : lw_tbl[1366]? = some (.code (xm 183).1 (xm 183).2.1 (xm 183).2.2.1 (xm 183).2.2.2.1) := rfl
set_option maxRecDepth 100000 in
theorem xmc_184 : lw_tbl[1361]? = some (.code (xm 184).1 (xm 184).2.1 (xm 184).2.2.1 (xm 184).2.2.2.1) := rfl
set_option maxRecDepth 100000 in
theorem xmc_185 : lw_tbl[1394]? = some (.code (xm 185).1 (xm 185).2.1 (xm 185).2.2.1 (xm 185).2.2.2.1) := rfl
set_option maxRecDepth 100000 in
theorem xmc_186 : lw_tbl[1382]? = some (.code (xm 186).1 (xm 186).2.1 (xm 186).2.2.1 (xm 186).2.2.2.1) := rfl
set_option maxRecDepth 100000 in
theorem xmc_187 : lw_tbl[1378]? = some (.code (xm 187).1 (xm 187).2.1 (xm 187).2.2.1 (xm 187).2.2.2.1) := rfl
set_option maxRecDepth 100000 in
theorem xmc_188 : lw_tbl[1402]? = some (.code (xm 188).1 (xm 188).2.1 (xm 188).2.2.1 (xm 188).2.2.2.1) := rfl
set_option maxRecDepth 100000 in
theorem xmc_189 : lw_tbl[1406]? = some (.code (xm 189).1 (xm 189).2.1 (xm 189).2.2.1 (xm 189).2.2.2.1) := rfl
set_option maxRecDepth 100000 in
theorem xmc_190 : lw_tbl[1398]? = some (.code (xm 190).1 (xm 190).2.1 (xm 190).2.2.1 (xm 190).2.2.2.1) := rfl
set_option maxRecDepth 100000 in
theorem xmc_191 : lw_tbl[1387]? = some (.code (xm 191).1 (xm 191).2.1 (xm 191).2.2.1 (xm 191).2.2.2.1) := rfl
set_option maxRecDepth 100000 in
theorem xmc_192 : lw_tbl[1410]? = some (.code (xm 192).1 (xm 192).2.1 (xm 192).2.2.1 (xm 192).2.2.2.1) := rfl
set_option maxRecDepth 100000 in
theorem xmc_193 : lw_tbl[1414]? = some (.code (xm 193).1 (xm 193).2.1 (xm 193).2.2.1 (xm 193).2.2.2.1) := rfl
set_option maxRecDepth 100000 in
theorem xmc_194 : lw_tbl[1418]? = some (.code (xm 194).1 (xm 194).2.1 (xm 194).2.2.1 (xm 194).2.2.2.1) := rfl
set_option maxRecDepth 100000 in
theorem xmc_195 : lw_tbl[1434]? = some (.code (xm 195).1 (xm 195).2.1 (xm 195).2.2.1 (xm 195).2.2.2.1) := rfl
set_option maxRecDepth 100000 in
theorem xmc_196 : lw_tbl[1437]? = some (.code (xm 196).1 (xm 196).2.1 (xm 196).2.2.1 (xm 196).2.2.2.1) := rfl
set_option maxRecDepth 100000 in
theorem xmc_197 : lw_tbl[1430]? = some (.code (xm 197).1 (xm 197).2.1 (xm 197).2.2.1 (xm 197).2.2.2.1) := rfl
set_option maxRecDepth 100000 in
theorem xmc_198 : lw_tbl[1426]? = some (.code (xm 198).1 (xm 198).2.1 (xm 198).2.2.1 (xm 198).2.2.2.1) := rfl
set_option maxRecDepth 100000 in
theorem xmc_199 : lw_tbl[1422]? = some (.code (xm 199).1 (xm 199).2.1 (xm 199).2.2.1 (xm 199).2.2.2.1) := rfl
set_option maxRecDepth 100000 in
theorem xmc_200 : lw_tbl[1441]? = some (.code (xm 200).1 (xm 200).2.1 (xm 200).2.2.1 (xm 200).2.2.2.1) := rfl
set_option maxRecDepth 100000 in
theorem xmc_201 : lw_tbl[1449]? = some (.code (xm 201).1 (xm 201).2.1 (xm 201).2.2.1 (xm 201).2.2.2.1) := rfl
set_option maxRecDepth 100000 in
theorem xmc_202 : lw_tbl[1445]? = some (.code (xm 202).1 (xm 202).2.1 (xm 202).2.2.1 (xm 202).2.2.2.1) := rfl
set_option maxRecDepth 100000 in
theorem xmc_203 : lw_tbl[1453]? = some (.code (xm 203).1 (xm 203).2.1 (xm 203).2.2.1 (xm 203).2.2.2.1) := rfl
set_option maxRecDepth 100000 in
theorem xmc_204 : lw_tbl[1457]? = some (.code (xm 204).1 (xm 204).2.1 (xm 204).2.2.1 (xm 204).2.2.2.1) := rfl
set_option maxRecDepth 100000 in
theorem xmc_205 : lw_tbl[1464]? = some (.code (xm 205).1 (xm 205).2.1 (xm 205).2.2.1 (xm 205).2.2.2.1) := rfl
set_option maxRecDepth 100000 in
theorem xmc_206 : lw_tbl[1477]? = some (.code (xm 206).1 (xm 206).2.1 (xm 206).2.2.1 (xm 206).2.2.2.1) := rfl
set_option maxRecDepth 100000 in
theorem xmc_207 : lw_tbl[1461]? = some (.code (xm 207).1 (xm 207).2.1 (xm 207).2.2.1 (xm 207).2.2.2.1) := rfl
set_option maxRecDepth 100000 in
theorem xmc_208 : lw_tbl[1468]? = some (.code (xm 208).1 (xm 208).2.1 (xm 208).2.2.1 (xm 208).2.2.2.1) := rfl
set_option maxRecDepth 100000 in
theorem xmc_209 : lw_tbl[1473]? = some (.code (xm 209).1 (xm 209).2.1 (xm 209).2.2.1 (xm 209).2.2.2.1) := rfl
set_option maxRecDepth 100000 in
theorem xmc_210 : lw_tbl[1485]? = some (.code (xm 210).1 (xm 210).2.1 (xm 210).2.2.1 (xm 210).2.2.2.1) := rfl
set_option maxRecDepth 100000 in
theorem xmc_211 : lw_tbl[1489]? = some (.code (xm 211).1 (xm 211).2.1 (xm 211).2.2.1 (xm 211).2.2.2.1) := rfl
set_option maxRecDepth 100000 in
theorem xmc_212 : lw_tbl[1481]? = some (.code (xm 212).1 (xm 212).2.1 (xm 212).2.2.1 (xm 212).2.2.2.1) := rfl
set_option maxRecDepth 100000 in
theorem xmc_213 : lw_tbl[1493]? = some (.code (xm 213).1 (xm 213).2.1 (xm 213).2.2.1 (xm 213).2.2.2.1) := rfl
set_option maxRecDepth 100000 in
theorem xmc_214 : lw_tbl[1505]? = some (.code (xm 214).1 (xm 214).2.1 (xm 214).2.2.1 (xm 214).2.2.2.1) := rfl
set_option maxRecDepth 100000 in
theorem xmc_215 : lw_tbl[1497]? = some (.code (xm 215).1 (xm 215).2.1 (xm 215).2.2.1 (xm 215).2.2.2.1) := rfl
set_option maxRecDepth 100000 in
theorem xmc_216 : lw_tbl[1501]? = some (.code (xm 216).1 (xm 216).2.1 (xm 216).2.2.1 (xm 216).2.2.2.1) := rfl
set_option maxRecDepth 100000 in
theorem xmc_217 : lw_tbl[1509]? = some (.code (xm 217).1 (xm 217).2.1 (xm 217).2.2.1 (xm 217).2.2.2.1) := rfl
set_option maxRecDepth 100000 in
theorem xmc_218 : lw_tbl[1513]? = some (.code (xm 218).1 (xm 218).2.1 (xm 218).2.2.1 (xm 218).2.2.2.1) := rfl
set_option maxRecDepth 100000 in
theorem xmc_219 : lw_tbl[1517]? = some (.code (xm 219).1 (xm 219).2.1 (xm 219).2.2.1 (xm 219).2.2.2.1) := rfl
set_option maxRecDepth 100000 in
theorem xmc_220 : lw_tbl[1521]? = some (.code (xm 220).1 (xm 220).2.1 (xm 220).2.2.1 (xm 220).2.2.2.1) := rfl
set_option maxRecDepth 100000 in
theorem xmc_221 : lw_tbl[488]? = some (.code (xm 221).1 (xm 221).2.1 (xm 221).2.2.1 (xm 221).2.2.2.1) := rfl
set_option maxRecDepth 100000 in
theorem xmc_222 : lw_tbl[470]? = some (.code (xm 222).1 (xm 222).2.1 (xm 222).2.2.1 (xm 222).2.2.2.1) := rfl
set_option maxRecDepth 100000 in
theorem xmc_223 : lw_tbl[579]? = some (.code (xm 223).1 (xm 223).2.1 (xm 223).2.2.1 (xm 223).2.2.2.1) := rfl
set_option maxRecDepth 100000 in
theorem xmc_224 : lw_tbl[589]? = some (.code (xm 224).1 (xm 224).2.1 (xm 224).2.2.1 (xm 224).2.2.2.1) := rfl
set_option maxRecDepth 100000 in
theorem xmc_225 : lw_tbl[583]? = some (.code (xm 225).1 (xm 225).2.1 (xm 225).2.2.1 (xm 225).2.2.2.1) := rfl
set_option maxRecDepth 100000 in
theorem xmc_226 : lw_tbl[593]? = some (.code (xm 226).1 (xm 226).2.1 (xm 226).2.2.1 (xm 226).2.2.2.1) := rfl
set_option maxRecDepth 100000 in
theorem xmc_227 : lw_tbl[599]? = some (.code (xm 227).1 (xm 227).2.1 (xm 227).2.2.1 (xm 227).2.2.2.1) := rfl
set_option maxRecDepth 100000 in
theorem xmc_228 : lw_tbl[596]? = some (.code (xm 228).1 (xm 228).2.1 (xm 228).2.2.1 (xm 228).2.2.2.1) := rfl
set_option maxRecDepth 100000 in
theorem xmc_229 : lw_tbl[300]? = some (.code (xm 229).1 (xm 229).2.1 (xm 229).2.2.1 (xm 229).2.2.2.1) := rfl
set_option maxRecDepth 100000 in
theorem xmc_230 : lw_tbl[604]? = some (.code (xm 230).1 (xm 230).2.1 (xm 230).2.2.1 (xm 230).2.2.2.1) := rfl
theorem xmc : ∀ z, z + 1 < xN → ∃ i : Nat, lw_tbl[i]? = some (.code (xm z).1 (xm z).2.1 (xm z).2.2.1 (xm z).2.2.2.1) := by
  intro z hz
  have hz : z + 1 < 232 := hz
  match z, hz with
  | 0, _ => exact ⟨_, xmc_0⟩
  | 1, _ => exact ⟨_, xmc_1⟩
  | 2, _ => exact ⟨_, xmc_2⟩
  | 3, _ => exact ⟨_, xmc_3⟩
  | 4, _ => exact ⟨_, xmc_4⟩
  | 5, _ => exact ⟨_, xmc_5⟩
  | 6, _ => exact ⟨_, xmc_6⟩
  | 7, _ => exact ⟨_, xmc_7⟩
  | 8, _ => exact ⟨_, xmc_8⟩
  | 9, _ => exact ⟨_, xmc_9⟩
  | 10, _ => exact ⟨_, xmc_10⟩
  | 11, _ => exact ⟨_, xmc_11⟩
  | 12, _ => exact ⟨_, xmc_12⟩
  | 13, _ => exact ⟨_, xmc_13⟩
  | 14, _ => exact ⟨_, xmc_14⟩
  | 15, _ => exact ⟨_, xmc_15⟩
  | 16, _ => exact ⟨_, xmc_16⟩
  | 17, _ => exact ⟨_, xmc_17⟩
  | 18, _ => exact ⟨_, xmc_18⟩
  | 19, _ => exact ⟨_, xmc_19⟩
  | 20, _ => exact ⟨_, xmc_20⟩
  | 21, _ => exact ⟨_, xmc_21⟩
  | 22, _ => exact ⟨_, xmc_22⟩
  | 23, _ => exact ⟨_, xmc_23⟩
  | 24, _ => exact ⟨_, xmc_24⟩
  | 25, _ => exact ⟨_, xmc_25⟩
  | 26, _ => exact ⟨_, xmc_26⟩
  | 27, _ => exact ⟨_, xmc_27⟩
  | 28, _ => exact ⟨_, xmc_28⟩
  | 29, _ => exact ⟨_, xmc_29⟩
  | 30, _ => exact ⟨_, xmc_30⟩
  | 31, _ => exact ⟨_, xmc_31⟩
  | 32, _ => exact ⟨_, xmc_32⟩
  | 33, _ => exact ⟨_, xmc_33⟩
  | 34, _ => exact ⟨_, xmc_34⟩
  | 35, _ => exact ⟨_, xmc_35⟩
  | 36, _ => exact ⟨_, xmc_36⟩
  | 37, _ => exact ⟨_, xmc_37⟩
  | 38, _ => exact ⟨_, xmc_38⟩
  | 39, _ => exact ⟨_, xmc_39⟩
  | 40, _ => exact ⟨_, xmc_40⟩
  | 41, _ => exact ⟨_, xmc_41⟩
  | 42, _ => exact ⟨_, xmc_42⟩
  | 43, _ => exact ⟨_, xmc_43⟩
  | 44, _ => exact ⟨_, xmc_44⟩
  | 45, _ => exact ⟨_, xmc_45⟩
  | 46, _ => exact ⟨_, xmc_46⟩
  | 47, _ => exact ⟨_, xmc_47⟩
  | 48, _ => exact ⟨_, xmc_48⟩
  | 49, _ => exact ⟨_, xmc_49⟩
  | 50, _ => exact ⟨_, xmc_50⟩
  | 51, _ => exact ⟨_, xmc_51⟩
  | 52, _ => exact ⟨_, xmc_52⟩
  | 53, _ => exact ⟨_, xmc_53⟩
  | 54, _ => exact ⟨_, xmc_54⟩
  | 55, _ => exact ⟨_, xmc_55⟩
  | 56, _ => exact ⟨_, xmc_56⟩
  | 57, _ => exact ⟨_, xmc_57⟩
  | 58, _ => exact ⟨_, xmc_58⟩
  | 59, _ => exact ⟨_, xmc_59⟩
  | 60, _ => exact ⟨_, xmc_60⟩
  | 61, _ => exact ⟨_, xmc_61⟩
  | 62, _ => exact ⟨_, xmc_62⟩
  | 63, _ => exact ⟨_, xmc_63⟩
  | 64, _ => exact ⟨_, xmc_64⟩
  | 65, _ => exact ⟨_, xmc_65⟩
  | 66, _ => exact ⟨_, xmc_66⟩
  | 67, _ => exact ⟨_, xmc_67⟩
  | 68, _ => exact ⟨_, xmc_68⟩
  | 69, _ => exact ⟨_, xmc_69⟩
  | 70, _ => exact ⟨_, xmc_70⟩
  | 71, _ => exact ⟨_, xmc_71⟩
  | 72, _ => exact ⟨_, xmc_72⟩
  | 73, _ => exact ⟨_, xmc_73⟩
  | 74, _ => exact ⟨_, xmc_74⟩
  | 75, _ => exact ⟨_, xmc_75⟩
  | 76, _ => exact ⟨_, xmc_76⟩
  | 77, _ => exact ⟨_, xmc_77⟩
  | 78, _ => exact ⟨_, xmc_78⟩
  | 79, _ => exact ⟨_, xmc_79⟩
  | 80, _ => exact ⟨_, xmc_80⟩
  | 81, _ => exact ⟨_, xmc_81⟩
  | 82, _ => exact ⟨_, xmc_82⟩
  | 83, _ => exact ⟨_, xmc_83⟩
  | 84, _ => exact ⟨_, xmc_84⟩
  | 85, _ => exact ⟨_, xmc_85⟩
  | 86, _ => exact ⟨_, xmc_86⟩
  | 87, _ => exact ⟨_, xmc_87⟩
  | 88, _ => exact ⟨_, xmc_88⟩
  | 89, _ => exact ⟨_, xmc_89⟩
  | 90, _ => exact ⟨_, xmc_90⟩
  | 91, _ => exact ⟨_, xmc_91⟩
  | 92, _ => exact ⟨_, xmc_92⟩
  | 93, _ => exact ⟨_, xmc_93⟩
  | 94, _ => exact ⟨_, xmc_94⟩
  | 95, _ => exact ⟨_, xmc_95⟩
  | 96, _ => exact ⟨_, xmc_96⟩
  | 97, _ => exact ⟨_, xmc_97⟩
  | 98, _ => exact ⟨_, xmc_98⟩
  | 99, _ => exact ⟨_, xmc_99⟩
  | 100, _ => exact ⟨_, xmc_100⟩
  | 101, _ => exact ⟨_, xmc_101⟩
  | 102, _ => exact ⟨_, xmc_102⟩
  | 103, _ => exact ⟨_, xmc_103⟩
  | 104, _ => exact ⟨_, xmc_104⟩
  | 105, _ => exact ⟨_, xmc_105⟩
  | 106, _ => exact ⟨_, xmc_106⟩
  | 107, _ => exact ⟨_, xmc_107⟩
  | 108, _ => exact ⟨_, xmc_108⟩
  | 109, _ => exact ⟨_, xmc_109⟩
  | 110, _ => exact ⟨_, xmc_110⟩
  | 111, _ => exact ⟨_, xmc_111⟩
  | 112, _ => exact ⟨_, xmc_112⟩
  | 113, _ => exact ⟨_, xmc_113⟩
  | 114, _ => exact ⟨_, xmc_114⟩
  | 115, _ => exact ⟨_, xmc_115⟩
  | 116, _ => exact ⟨_, xmc_116⟩
  | 117, _ => exact ⟨_, xmc_117⟩
  | 118, _ => exact ⟨_, xmc_118⟩
  | 119, _ => exact ⟨_, xmc_119⟩
  | 120, _ => exact ⟨_, xmc_120⟩
  | 121, _ => exact ⟨_, xmc_121⟩
  | 122, _ => exact ⟨_, xmc_122⟩
  | 123, _ => exact ⟨_, xmc_123⟩
  | 124, _ => exact ⟨_, xmc_124⟩
  | 125, _ => exact ⟨_, xmc_125⟩
  | 126, _ => exact ⟨_, xmc_126⟩
  | 127, _ => exact ⟨_, xmc_127⟩
  | 128, _ => exact ⟨_, xmc_128⟩
  | 129, _ => exact ⟨_, xmc_129⟩
  | 130, _ => exact ⟨_, xmc_130⟩
  | 131, _ => exact ⟨_, xmc_131⟩
  | 132, _ => exact ⟨_, xmc_132⟩
  | 133, _ => exact ⟨_, xmc_133⟩
  | 134, _ => exact ⟨_, xmc_134⟩
  | 135, _ => exact ⟨_, xmc_135⟩
  | 136, _ => exact ⟨_, xmc_136⟩
  | 137, _ => exact ⟨_, xmc_137⟩
  | 138, _ => exact ⟨_, xmc_138⟩
  | 139, _ => exact ⟨_, xmc_139⟩
  | 140, _ => exact ⟨_, xmc_140⟩
  | 141, _ => exact ⟨_, xmc_141⟩
  | 142, _ => exact ⟨_, xmc_142⟩
  | 143, _ => exact ⟨_, xmc_143⟩
  | 144, _ => exact ⟨_, xmc_144⟩
  | 145, _ => exact ⟨_, xmc_145⟩
  | 146, _ => exact ⟨_, xmc_146⟩
  | 147, _ => exact ⟨_, xmc_147⟩
  | 148, _ => exact ⟨_, xmc_148⟩
  | 149, _ => exact ⟨_, xmc_149⟩
  | 150, _ => exact ⟨_, xmc_150⟩
  | 151, _ => exact ⟨_, xmc_151⟩
  | 152, _ => exact ⟨_, xmc_152⟩
  | 153, _ => exact ⟨_, xmc_153⟩
  | 154, _ => exact ⟨_, xmc_154⟩
  | 155, _ => exact ⟨_, xmc_155⟩
  | 156, _ => exact ⟨_, xmc_156⟩
  | 157, _ => exact ⟨_, xmc_157⟩
  | 158, _ => exact ⟨_, xmc_158⟩
  | 159, _ => exact ⟨_, xmc_159⟩
  | 160, _ => exact ⟨_, xmc_160⟩
  | 161, _ => exact ⟨_, xmc_161⟩
  | 162, _ => exact ⟨_, xmc_162⟩
  | 163, _ => exact ⟨_, xmc_163⟩
  | 164, _ => exact ⟨_, xmc_164⟩
  | 165, _ => exact ⟨_, xmc_165⟩
  | 166, _ => exact ⟨_, xmc_166⟩
  | 167, _ => exact ⟨_, xmc_167⟩
  | 168, _ => exact ⟨_, xmc_168⟩
  | 169, _ => exact ⟨_, xmc_169⟩
  | 170, _ => exact ⟨_, xmc_170⟩
  | 171, _ => exact ⟨_, xmc_171⟩
  | 172, _ => exact ⟨_, xmc_172⟩
  | 173, _ => exact ⟨_, xmc_173⟩
  | 174, _ => exact ⟨_, xmc_174⟩
  | 175, _ => exact ⟨_, xmc_175⟩
  | 176, _ => exact ⟨_, xmc_176⟩
  | 177, _ => exact ⟨_, xmc_177⟩
  | 178, _ => exact ⟨_, xmc_178⟩
  | 179, _ => exact ⟨_, xmc_179⟩
  | 180, _ => exact ⟨_, xmc_180⟩
  | 181, _ => exact ⟨_, xmc_181⟩
  | 182, _ => exact ⟨_, xmc_182⟩
  | 183, _ => exact ⟨_, xmc_183⟩
  | 184, _ => exact ⟨_, xmc_184⟩
  | 185, _ => exact ⟨_, xmc_185⟩
  | 186, _ => exact ⟨_, xmc_186⟩
  | 187, _ => exact ⟨_, xmc_187⟩
  | 188, _ => exact ⟨_, xmc_188⟩
  | 189, _ => exact ⟨_, xmc_189⟩
  | 190, _ => exact ⟨_, xmc_190⟩
  | 191, _ => exact ⟨_, xmc_191⟩
  | 192, _ => exact ⟨_, xmc_192⟩
  | 193, _ => exact ⟨_, xmc_193⟩
  | 194, _ => exact ⟨_, xmc_194⟩
  | 195, _ => exact ⟨_, xmc_195⟩
  | 196, _ => exact ⟨_, xmc_196⟩
  | 197, _ => exact ⟨_, xmc_197⟩
  | 198, _ => exact ⟨_, xmc_198⟩
  | 199, _ => exact ⟨_, xmc_199⟩
  | 200, _ => exact ⟨_, xmc_200⟩
  | 201, _ => exact ⟨_, xmc_201⟩
  | 202, _ => exact ⟨_, xmc_202⟩
  | 203, _ => exact ⟨_, xmc_203⟩
  | 204, _ => exact ⟨_, xmc_204⟩
  | 205, _ => exact ⟨_, xmc_205⟩
  | 206, _ => exact ⟨_, xmc_206⟩
  | 207, _ => exact ⟨_, xmc_207⟩
  | 208, _ => exact ⟨_, xmc_208⟩
  | 209, _ => exact ⟨_, xmc_209⟩
  | 210, _ => exact ⟨_, xmc_210⟩
  | 211, _ => exact ⟨_, xmc_211⟩
  | 212, _ => exact ⟨_, xmc_212⟩
  | 213, _ => exact ⟨_, xmc_213⟩
  | 214, _ => exact ⟨_, xmc_214⟩
  | 215, _ => exact ⟨_, xmc_215⟩
  | 216, _ => exact ⟨_, xmc_216⟩
  | 217, _ => exact ⟨_, xmc_217⟩
  | 218, _ => exact ⟨_, xmc_218⟩
  | 219, _ => exact ⟨_, xmc_219⟩
  | 220, _ => exact ⟨_, xmc_220⟩
  | 221, _ => exact ⟨_, xmc_221⟩
  | 222, _ => exact ⟨_, xmc_222⟩
  | 223, _ => exact ⟨_, xmc_223⟩
  | 224, _ => exact ⟨_, xmc_224⟩
  | 225, _ => exact ⟨_, xmc_225⟩
  | 226, _ => exact ⟨_, xmc_226⟩
  | 227, _ => exact ⟨_, xmc_227⟩
  | 228, _ => exact ⟨_, xmc_228⟩
  | 229, _ => exact ⟨_, xmc_229⟩
  | 230, _ => exact ⟨_, xmc_230⟩
  | k + 231, hk => omega
theorem xmOK_0 : (List.range 8).all (fun i => xmck (0 + i)) = true := by decide +kernel
theorem xmOK_1 : (List.range 8).all (fun i => xmck (8 + i)) = true := by decide +kernel
theorem xmOK_2 : (List.range 8).all (fun i => xmck (16 + i)) = true := by decide +kernel
theorem xmOK_3 : (List.range 8).all (fun i => xmck (24 + i)) = true := by decide +kernel
theorem xmOK_4 : (List.range 8).all (fun i => xmck (32 + i)) = true := by decide +kernel
theorem xmOK_5 : (List.range 8).all (fun i => xmck (40 + i)) = true := by decide +kernel
theorem xmOK_6 : (List.range 8).all (fun i => xmck (48 + i)) = true := by decide +kernel
theorem xmOK_7 : (List.range 8).all (fun i => xmck (56 + i)) = true := by decide +kernel
theorem xmOK_8 : (List.range 8).all (fun i => xmck (64 + i)) = true := by decide +kernel
theorem xmOK_9 : (List.range 8).all (fun i => xmck (72 + i)) = true := by decide +kernel
theorem xmOK_10 : (List.range 8).all (fun i => xmck (80 + i)) = true := by decide +kernel
theorem xmOK_11 : (List.range 8).all (fun i => xmck (88 + i)) = true := by decide +kernel
theorem xmOK_12 : (List.range 8).all (fun i => xmck (96 + i)) = true := by decide +kernel
theorem xmOK_13 : (List.range 8).all (fun i => xmck (104 + i)) = true := by decide +kernel
theorem xmOK_14 : (List.range 8).all (fun i => xmck (112 + i)) = true := by decide +kernel
theorem xmOK_15 : (List.range 8).all (fun i => xmck (120 + i)) = true := by decide +kernel
theorem xmOK_16 : (List.range 8).all (fun i => xmck (128 + i)) = true := by decide +kernel
theorem xmOK_17 : (List.range 8).all (fun i => xmck (136 + i)) = true := by decide +kernel
theorem xmOK_18 : (List.range 8).all (fun i => xmck (144 + i)) = true := by decide +kernel
theorem xmOK_19 : (List.range 8).all (fun i => xmck (152 + i)) = true := by decide +kernel
theorem xmOK_20 : (List.range 8).all (fun i => xmck (160 + i)) = true := by decide +kernel
theorem xmOK_21 : (List.range 8).all (fun i => xmck (168 + i)) = true := by decide +kernel
theorem xmOK_22 : (List.range 8).all (fun i => xmck (176 + i)) = true := by decide +kernel
theorem xmOK_23 : (List.range 8).all (fun i => xmck (184 + i)) = true := by decide +kernel
theorem xmOK_24 : (List.range 8).all (fun i => xmck (192 + i)) = true := by decide +kernel
theorem xmOK_25 : (List.range 8).all (fun i => xmck (200 + i)) = true := by decide +kernel
theorem xmOK_26 : (List.range 8).all (fun i => xmck (208 + i)) = true := by decide +kernel
theorem xmOK_27 : (List.range 8).all (fun i => xmck (216 + i)) = true := by decide +kernel
theorem xmOK_28 : (List.range 7).all (fun i => xmck (224 + i)) = true := by decide +kernel
theorem xmOK_at {a n z : Nat} (h : (List.range n).all (fun i => xmck (a + i)) = true) (h1 : a ≤ z) (h2 : z < a + n) : xmck z = true := by
  have q := List.all_eq_true.mp h (z - a) (List.mem_range.mpr (by omega))
  rw [show a + (z - a) = z by omega] at q
  exact q
theorem xmOK : ∀ z, z + 1 < xN → xmck z = true := by
  intro z hz
  have hz : z + 1 < 232 := hz
  by_cases h0 : z < 8
  · exact xmOK_at xmOK_0 (by omega) (by omega)
  by_cases h1 : z < 16
  · exact xmOK_at xmOK_1 (by omega) (by omega)
  by_cases h2 : z < 24
  · exact xmOK_at xmOK_2 (by omega) (by omega)
  by_cases h3 : z < 32
  · exact xmOK_at xmOK_3 (by omega) (by omega)
  by_cases h4 : z < 40
  · exact xmOK_at xmOK_4 (by omega) (by omega)
  by_cases h5 : z < 48
  · exact xmOK_at xmOK_5 (by omega) (by omega)
  by_cases h6 : z < 56
  · exact xmOK_at xmOK_6 (by omega) (by omega)
  by_cases h7 : z < 64
  · exact xmOK_at xmOK_7 (by omega) (by omega)
  by_cases h8 : z < 72
  · exact xmOK_at xmOK_8 (by omega) (by omega)
  by_cases h9 : z < 80
  · exact xmOK_at xmOK_9 (by omega) (by omega)
  by_cases h10 : z < 88
  · exact xmOK_at xmOK_10 (by omega) (by omega)
  by_cases h11 : z < 96
  · exact xmOK_at xmOK_11 (by omega) (by omega)
  by_cases h12 : z < 104
  · exact xmOK_at xmOK_12 (by omega) (by omega)
  by_cases h13 : z < 112
  · exact xmOK_at xmOK_13 (by omega) (by omega)
  by_cases h14 : z < 120
  · exact xmOK_at xmOK_14 (by omega) (by omega)
  by_cases h15 : z < 128
  · exact xmOK_at xmOK_15 (by omega) (by omega)
  by_cases h16 : z < 136
  · exact xmOK_at xmOK_16 (by omega) (by omega)
  by_cases h17 : z < 144
  · exact xmOK_at xmOK_17 (by omega) (by omega)
  by_cases h18 : z < 152
  · exact xmOK_at xmOK_18 (by omega) (by omega)
  by_cases h19 : z < 160
  · exact xmOK_at xmOK_19 (by omega) (by omega)
  by_cases h20 : z < 168
  · exact xmOK_at xmOK_20 (by omega) (by omega)
  by_cases h21 : z < 176
  · exact xmOK_at xmOK_21 (by omega) (by omega)
  by_cases h22 : z < 184
  · exact xmOK_at xmOK_22 (by omega) (by omega)
  by_cases h23 : z < 192
  · exact xmOK_at xmOK_23 (by omega) (by omega)
  by_cases h24 : z < 200
  · exact xmOK_at xmOK_24 (by omega) (by omega)
  by_cases h25 : z < 208
  · exact xmOK_at xmOK_25 (by omega) (by omega)
  by_cases h26 : z < 216
  · exact xmOK_at xmOK_26 (by omega) (by omega)
  by_cases h27 : z < 224
  · exact xmOK_at xmOK_27 (by omega) (by omega)
  by_cases h28 : z < 231
  · exact xmOK_at xmOK_28 (by omega) (by omega)
  · omega
