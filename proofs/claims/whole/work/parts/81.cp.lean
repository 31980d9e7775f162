/-! the words of the code stand in the tables (by program) -/
set_option maxRecDepth 100000 in
theorem cp_0 : lw_tbl[255]? = some (Cond.code m_0.1 m_0.2.1 m_0.2.2.1 m_0.2.2.2.1) := rfl
set_option maxRecDepth 100000 in
theorem cp_1 : lw_tbl[631]? = some (Cond.code m_1.1 m_1.2.1 m_1.2.2.1 m_1.2.2.2.1) := rfl
set_option maxRecDepth 100000 in
theorem cp_2 : lw_tbl[688]? = some (Cond.code m_2.1 m_2.2.1 m_2.2.2.1 m_2.2.2.2.1) := rfl
set_option maxRecDepth 100000 in
theorem cp_3 : lw_tbl[702]? = some (Cond.code m_3.1 m_3.2.1 m_3.2.2.1 m_3.2.2.2.1) := rfl
set_option maxRecDepth 100000 in
theorem cp_4 : lw_tbl[105]? = some (Cond.code m_4.1 m_4.2.1 m_4.2.2.1 m_4.2.2.2.1) := rfl
set_option maxRecDepth 100000 in
theorem cp_5 : lw_tbl[347]? = some (Cond.code m_5.1 m_5.2.1 m_5.2.2.1 m_5.2.2.2.1) := rfl
set_option maxRecDepth 100000 in
theorem cp_6 : lw_tbl[343]? = some (Cond.code m_6.1 m_6.2.1 m_6.2.2.1 m_6.2.2.2.1) := rfl
set_option maxRecDepth 100000 in
theorem cp_7 : lw_tbl[369]? = some (Cond.code m_7.1 m_7.2.1 m_7.2.2.1 m_7.2.2.2.1) := rfl
set_option maxRecDepth 100000 in
theorem cp_8 : lw_tbl[355]? = some (Cond.code m_8.1 m_8.2.1 m_8.2.2.1 m_8.2.2.2.1) := rfl
set_option maxRecDepth 100000 in
theorem cp_9 : lw_tbl[351]? = some (Cond.code m_9.1 m_9.2.1 m_9.2.2.1 m_9.2.2.2.1) := rfl
set_option maxRecDepth 100000 in
theorem cp_10 : lw_tbl[432]? = some (Cond.code m_10.1 m_10.2.1 m_10.2.2.1 m_10.2.2.2.1) := rfl
set_option maxRecDepth 100000 in
theorem cp_11 : lw_tbl[444]? = some (Cond.code m_11.1 m_11.2.1 m_11.2.2.1 m_11.2.2.2.1) := rfl
set_option maxRecDepth 100000 in
theorem cp_12 : lw_tbl[401]? = some (Cond.code m_12.1 m_12.2.1 m_12.2.2.1 m_12.2.2.2.1) := rfl
set_option maxRecDepth 100000 in
theorem cp_13 : lw_tbl[499]? = some (Cond.code m_13.1 m_13.2.1 m_13.2.2.1 m_13.2.2.2.1) := rfl
set_option maxRecDepth 100000 in
theorem cp_14 : lw_tbl[418]? = some (Cond.code m_14.1 m_14.2.1 m_14.2.2.1 m_14.2.2.2.1) := rfl
set_option maxRecDepth 100000 in
theorem cp_15 : lw_tbl[479]? = some (Cond.code m_15.1 m_15.2.1 m_15.2.2.1 m_15.2.2.2.1) := rfl
set_option maxRecDepth 100000 in
theorem cp_16 : lw_tbl[769]? = some (Cond.code m_16.1 m_16.2.1 m_16.2.2.1 m_16.2.2.2.1) := rfl
set_option maxRecDepth 100000 in
theorem cp_17 : lw_tbl[249]? = some (Cond.code m_17.1 m_17.2.1 m_17.2.2.1 m_17.2.2.2.1) := rfl
set_option maxRecDepth 100000 in
theorem cp_18 : lw_tbl[615]? = some (Cond.code m_18.1 m_18.2.1 m_18.2.2.1 m_18.2.2.2.1) := rfl
set_option maxRecDepth 100000 in
theorem cp_19 : lw_tbl[692]? = some (Cond.code m_19.1 m_19.2.1 m_19.2.2.1 m_19.2.2.2.1) := rfl
set_option maxRecDepth 100000 in
theorem cp_20 : lw_tbl[623]? = some (Cond.code m_20.1 m_20.2.1 m_20.2.2.1 m_20.2.2.2.1) := rfl
set_option maxRecDepth 100000 in
theorem cp_21 : lw_tbl[619]? = some (Cond.code m_21.1 m_21.2.1 m_21.2.2.1 m_21.2.2.2.1) := rfl
set_option maxRecDepth 100000 in
theorem cp_22 : lw_tbl[635]? = some (Cond.code m_22.1 m_22.2.1 m_22.2.2.1 m_22.2.2.2.1) := rfl
set_option maxRecDepth 100000 in
theorem cp_23 : lw_tbl[639]? = some (Cond.code m_23.1 m_23.2.1 m_23.2.2.1 m_23.2.2.2.1) := rfl
set_option maxRecDepth 100000 in
theorem cp_24 : lw_tbl[627]? = some (Cond.code m_24.1 m_24.2.1 m_24.2.2.1 m_24.2.2.2.1) := rfl
set_option maxRecDepth 100000 in
theorem cp_25 : lw_tbl[644]? = some (Cond.code m_25.1 m_25.2.1 m_25.2.2.1 m_25.2.2.2.1) := rfl
set_option maxRecDepth 100000 in
theorem cp_26 : lw_tbl[658]? = some (Cond.code m_26.1 m_26.2.1 m_26.2.2.1 m_26.2.2.2.1) := rfl
set_option maxRecDepth 100000 in
theorem cp_27 : lw_tbl[653]? = some (Cond.code m_27.1 m_27.2.1 m_27.2.2.1 m_27.2.2.2.1) := rfl
set_option maxRecDepth 100000 in
theorem cp_28 : lw_tbl[648]? = some (Cond.code m_28.1 m_28.2.1 m_28.2.2.1 m_28.2.2.2.1) := rfl
set_option maxRecDepth 100000 in
theorem cp_29 : lw_tbl[662]? = some (Cond.code m_29.1 m_29.2.1 m_29.2.2.1 m_29.2.2.2.1) := rfl
set_option maxRecDepth 100000 in
theorem cp_30 : lw_tbl[667]? = some (Cond.code m_30.1 m_30.2.1 m_30.2.2.1 m_30.2.2.2.1) := rfl
set_option maxRecDepth 100000 in
theorem cp_31 : lw_tbl[674]? = some (Cond.code m_31.1 m_31.2.1 m_31.2.2.1 m_31.2.2.2.1) := rfl
set_option maxRecDepth 100000 in
theorem cp_32 : lw_tbl[683]? = some (Cond.code m_32.1 m_32.2.1 m_32.2.2.1 m_32.2.2.2.1) := rfl
set_option maxRecDepth 100000 in
theorem cp_33 : lw_tbl[99]? = some (Cond.code m_33.1 m_33.2.1 m_33.2.2.1 m_33.2.2.2.1) := rfl
set_option maxRecDepth 100000 in
theorem cp_34 : lw_tbl[393]? = some (Cond.code m_34.1 m_34.2.1 m_34.2.2.1 m_34.2.2.2.1) := rfl
set_option maxRecDepth 100000 in
theorem cp_35 : lw_tbl[495]? = some (Cond.code m_35.1 m_35.2.1 m_35.2.2.1 m_35.2.2.2.1) := rfl
set_option maxRecDepth 100000 in
theorem cp_36 : lw_tbl[456]? = some (Cond.code m_36.1 m_36.2.1 m_36.2.2.1 m_36.2.2.2.1) := rfl
set_option maxRecDepth 100000 in
theorem cp_37 : lw_tbl[460]? = some (Cond.code m_37.1 m_37.2.1 m_37.2.2.1 m_37.2.2.2.1) := rfl
set_option maxRecDepth 100000 in
theorem cp_38 : lw_tbl[765]? = some (Cond.code m_38.1 m_38.2.1 m_38.2.2.1 m_38.2.2.2.1) := rfl
set_option maxRecDepth 100000 in
theorem cp_39 : lw_tbl[823]? = some (Cond.code m_39.1 m_39.2.1 m_39.2.2.1 m_39.2.2.2.1) := rfl
set_option maxRecDepth 100000 in
theorem cp_40 : lw_tbl[227]? = some (Cond.code m_40.1 m_40.2.1 m_40.2.2.1 m_40.2.2.2.1) := rfl
set_option maxRecDepth 100000 in
theorem cp_41 : lw_tbl[756]? = some (Cond.code m_41.1 m_41.2.1 m_41.2.2.1 m_41.2.2.2.1) := rfl
set_option maxRecDepth 100000 in
theorem cp_42 : lw_tbl[773]? = some (Cond.code m_42.1 m_42.2.1 m_42.2.2.1 m_42.2.2.2.1) := rfl
set_option maxRecDepth 100000 in
theorem cp_43 : lw_tbl[760]? = some (Cond.code m_43.1 m_43.2.1 m_43.2.2.1 m_43.2.2.2.1) := rfl
set_option maxRecDepth 100000 in
theorem cp_44 : lw_tbl[186]? = some (Cond.code m_44.1 m_44.2.1 m_44.2.2.1 m_44.2.2.2.1) := rfl
set_option maxRecDepth 100000 in
theorem cp_45 : lw_tbl[586]? = some (Cond.code m_45.1 m_45.2.1 m_45.2.2.1 m_45.2.2.2.1) := rfl
set_option maxRecDepth 100000 in
theorem cp_46 : lw_tbl[602]? = some (Cond.code m_46.1 m_46.2.1 m_46.2.2.1 m_46.2.2.2.1) := rfl
set_option maxRecDepth 100000 in
theorem cp_47 : lw_tbl[590]? = some (Cond.code m_47.1 m_47.2.1 m_47.2.2.1 m_47.2.2.2.1) := rfl
set_option maxRecDepth 100000 in
theorem cp_48 : lw_tbl[714]? = some (Cond.code m_48.1 m_48.2.1 m_48.2.2.1 m_48.2.2.2.1) := rfl
set_option maxRecDepth 100000 in
theorem cp_49 : lw_tbl[578]? = some (Cond.code m_49.1 m_49.2.1 m_49.2.2.1 m_49.2.2.2.1) := rfl
set_option maxRecDepth 100000 in
theorem cp_50 : lw_tbl[528]? = some (Cond.code m_50.1 m_50.2.1 m_50.2.2.1 m_50.2.2.2.1) := rfl
set_option maxRecDepth 100000 in
theorem cp_51 : lw_tbl[606]? = some (Cond.code m_51.1 m_51.2.1 m_51.2.2.1 m_51.2.2.2.1) := rfl
set_option maxRecDepth 100000 in
theorem cp_52 : lw_tbl[710]? = some (Cond.code m_52.1 m_52.2.1 m_52.2.2.1 m_52.2.2.2.1) := rfl
set_option maxRecDepth 100000 in
theorem cp_53 : lw_tbl[180]? = some (Cond.code m_53.1 m_53.2.1 m_53.2.2.1 m_53.2.2.2.1) := rfl
set_option maxRecDepth 100000 in
theorem cp_54 : lw_tbl[515]? = some (Cond.code m_54.1 m_54.2.1 m_54.2.2.1 m_54.2.2.2.1) := rfl
set_option maxRecDepth 100000 in
theorem cp_55 : lw_tbl[519]? = some (Cond.code m_55.1 m_55.2.1 m_55.2.2.1 m_55.2.2.2.1) := rfl
set_option maxRecDepth 100000 in
theorem cp_56 : lw_tbl[511]? = some (Cond.code m_56.1 m_56.2.1 m_56.2.2.1 m_56.2.2.2.1) := rfl
set_option maxRecDepth 100000 in
theorem cp_57 : lw_tbl[532]? = some (Cond.code m_57.1 m_57.2.1 m_57.2.2.1 m_57.2.2.2.1) := rfl
set_option maxRecDepth 100000 in
theorem cp_58 : lw_tbl[523]? = some (Cond.code m_58.1 m_58.2.1 m_58.2.2.1 m_58.2.2.2.1) := rfl
set_option maxRecDepth 100000 in
theorem cp_59 : lw_tbl[536]? = some (Cond.code m_59.1 m_59.2.1 m_59.2.2.1 m_59.2.2.2.1) := rfl
set_option maxRecDepth 100000 in
theorem cp_60 : lw_tbl[541]? = some (Cond.code m_60.1 m_60.2.1 m_60.2.2.1 m_60.2.2.2.1) := rfl
set_option maxRecDepth 100000 in
theorem cp_61 : lw_tbl[723]? = some (Cond.code m_61.1 m_61.2.1 m_61.2.2.1 m_61.2.2.2.1) := rfl
set_option maxRecDepth 100000 in
theorem cp_62 : lw_tbl[727]? = some (Cond.code m_62.1 m_62.2.1 m_62.2.2.1 m_62.2.2.2.1) := rfl
set_option maxRecDepth 100000 in
theorem cp_63 : lw_tbl[731]? = some (Cond.code m_63.1 m_63.2.1 m_63.2.2.1 m_63.2.2.2.1) := rfl
set_option maxRecDepth 100000 in
theorem cp_64 : lw_tbl[735]? = some (Cond.code m_64.1 m_64.2.1 m_64.2.2.1 m_64.2.2.2.1) := rfl
set_option maxRecDepth 100000 in
theorem cp_65 : lw_tbl[739]? = some (Cond.code m_65.1 m_65.2.1 m_65.2.2.1 m_65.2.2.2.1) := rfl
set_option maxRecDepth 100000 in
theorem cp_66 : lw_tbl[743]? = some (Cond.code m_66.1 m_66.2.1 m_66.2.2.1 m_66.2.2.2.1) := rfl
set_option maxRecDepth 100000 in
theorem cp_67 : lw_tbl[90]? = some (Cond.code m_67.1 m_67.2.1 m_67.2.2.1 m_67.2.2.2.1) := rfl
set_option maxRecDepth 100000 in
theorem cp_68 : lw_tbl[405]? = some (Cond.code m_68.1 m_68.2.1 m_68.2.2.1 m_68.2.2.2.1) := rfl
set_option maxRecDepth 100000 in
theorem cp_69 : lw_tbl[330]? = some (Cond.code m_69.1 m_69.2.1 m_69.2.2.1 m_69.2.2.2.1) := rfl
set_option maxRecDepth 100000 in
theorem cp_70 : lw_tbl[413]? = some (Cond.code m_70.1 m_70.2.1 m_70.2.2.1 m_70.2.2.2.1) := rfl
set_option maxRecDepth 100000 in
theorem cp_71 : lw_tbl[382]? = some (Cond.code m_71.1 m_71.2.1 m_71.2.2.1 m_71.2.2.2.1) := rfl
set_option maxRecDepth 100000 in
theorem cp_72 : lw_tbl[378]? = some (Cond.code m_72.1 m_72.2.1 m_72.2.2.1 m_72.2.2.2.1) := rfl
set_option maxRecDepth 100000 in
theorem cp_73 : lw_tbl[389]? = some (Cond.code m_73.1 m_73.2.1 m_73.2.2.1 m_73.2.2.2.1) := rfl
set_option maxRecDepth 100000 in
theorem cp_74 : lw_tbl[491]? = some (Cond.code m_74.1 m_74.2.1 m_74.2.2.1 m_74.2.2.2.1) := rfl
set_option maxRecDepth 100000 in
theorem cp_75 : lw_tbl[567]? = some (Cond.code m_75.1 m_75.2.1 m_75.2.2.1 m_75.2.2.2.1) := rfl
set_option maxRecDepth 100000 in
theorem cp_76 : lw_tbl[409]? = some (Cond.code m_76.1 m_76.2.1 m_76.2.2.1 m_76.2.2.2.1) := rfl
set_option maxRecDepth 100000 in
theorem cp_77 : lw_tbl[475]? = some (Cond.code m_77.1 m_77.2.1 m_77.2.2.1 m_77.2.2.2.1) := rfl
set_option maxRecDepth 100000 in
theorem cp_78 : lw_tbl[552]? = some (Cond.code m_78.1 m_78.2.1 m_78.2.2.1 m_78.2.2.2.1) := rfl
set_option maxRecDepth 100000 in
theorem cp_79 : lw_tbl[548]? = some (Cond.code m_79.1 m_79.2.1 m_79.2.2.1 m_79.2.2.2.1) := rfl
set_option maxRecDepth 100000 in
theorem cp_80 : lw_tbl[815]? = some (Cond.code m_80.1 m_80.2.1 m_80.2.2.1 m_80.2.2.2.1) := rfl
set_option maxRecDepth 100000 in
theorem cp_81 : lw_tbl[819]? = some (Cond.code m_81.1 m_81.2.1 m_81.2.2.1 m_81.2.2.2.1) := rfl
set_option maxRecDepth 100000 in
theorem cp_82 : lw_tbl[827]? = some (Cond.code m_82.1 m_82.2.1 m_82.2.2.1 m_82.2.2.2.1) := rfl
set_option maxRecDepth 100000 in
theorem cp_83 : lw_tbl[785]? = some (Cond.code m_83.1 m_83.2.1 m_83.2.2.1 m_83.2.2.2.1) := rfl
set_option maxRecDepth 100000 in
theorem cp_84 : lw_tbl[82]? = some (Cond.code m_84.1 m_84.2.1 m_84.2.2.1 m_84.2.2.2.1) := rfl
set_option maxRecDepth 100000 in
theorem cp_85 : lw_tbl[326]? = some (Cond.code m_85.1 m_85.2.1 m_85.2.2.1 m_85.2.2.2.1) := rfl
set_option maxRecDepth 100000 in
theorem cp_86 : lw_tbl[359]? = some (Cond.code m_86.1 m_86.2.1 m_86.2.2.1 m_86.2.2.2.1) := rfl
set_option maxRecDepth 100000 in
theorem cp_87 : lw_tbl[364]? = some (Cond.code m_87.1 m_87.2.1 m_87.2.2.1 m_87.2.2.2.1) := rfl
set_option maxRecDepth 100000 in
theorem cp_88 : lw_tbl[374]? = some (Cond.code m_88.1 m_88.2.1 m_88.2.2.1 m_88.2.2.2.1) := rfl
set_option maxRecDepth 100000 in
theorem cp_89 : lw_tbl[424]? = some (Cond.code m_89.1 m_89.2.1 m_89.2.2.1 m_89.2.2.2.1) := rfl
set_option maxRecDepth 100000 in
theorem cp_90 : lw_tbl[428]? = some (Cond.code m_90.1 m_90.2.1 m_90.2.2.1 m_90.2.2.2.1) := rfl
set_option maxRecDepth 100000 in
theorem cp_91 : lw_tbl[436]? = some (Cond.code m_91.1 m_91.2.1 m_91.2.2.1 m_91.2.2.2.1) := rfl
set_option maxRecDepth 100000 in
theorem cp_92 : lw_tbl[440]? = some (Cond.code m_92.1 m_92.2.1 m_92.2.2.1 m_92.2.2.2.1) := rfl
set_option maxRecDepth 100000 in
theorem cp_93 : lw_tbl[448]? = some (Cond.code m_93.1 m_93.2.1 m_93.2.2.1 m_93.2.2.2.1) := rfl
set_option maxRecDepth 100000 in
theorem cp_94 : lw_tbl[467]? = some (Cond.code m_94.1 m_94.2.1 m_94.2.2.1 m_94.2.2.2.1) := rfl
set_option maxRecDepth 100000 in
theorem cp_95 : lw_tbl[471]? = some (Cond.code m_95.1 m_95.2.1 m_95.2.2.1 m_95.2.2.2.1) := rfl
set_option maxRecDepth 100000 in
theorem cp_96 : lw_tbl[483]? = some (Cond.code m_96.1 m_96.2.1 m_96.2.2.1 m_96.2.2.2.1) := rfl
set_option maxRecDepth 100000 in
theorem cp_97 : lw_tbl[487]? = some (Cond.code m_97.1 m_97.2.1 m_97.2.2.1 m_97.2.2.2.1) := rfl
set_option maxRecDepth 100000 in
theorem cp_98 : lw_tbl[507]? = some (Cond.code m_98.1 m_98.2.1 m_98.2.2.1 m_98.2.2.2.1) := rfl
set_option maxRecDepth 100000 in
theorem cp_99 : lw_tbl[561]? = some (Cond.code m_99.1 m_99.2.1 m_99.2.2.1 m_99.2.2.2.1) := rfl
set_option maxRecDepth 100000 in
theorem cp_100 : lw_tbl[571]? = some (Cond.code m_100.1 m_100.2.1 m_100.2.2.1 m_100.2.2.2.1) := rfl
set_option maxRecDepth 100000 in
theorem cp_101 : lw_tbl[582]? = some (Cond.code m_101.1 m_101.2.1 m_101.2.2.1 m_101.2.2.2.1) := rfl
set_option maxRecDepth 100000 in
theorem cp_102 : lw_tbl[594]? = some (Cond.code m_102.1 m_102.2.1 m_102.2.2.1 m_102.2.2.2.1) := rfl
set_option maxRecDepth 100000 in
theorem cp_103 : lw_tbl[598]? = some (Cond.code m_103.1 m_103.2.1 m_103.2.2.1 m_103.2.2.2.1) := rfl
set_option maxRecDepth 100000 in
theorem cp_104 : lw_tbl[611]? = some (Cond.code m_104.1 m_104.2.1 m_104.2.2.1 m_104.2.2.2.1) := rfl
set_option maxRecDepth 100000 in
theorem cp_105 : lw_tbl[698]? = some (Cond.code m_105.1 m_105.2.1 m_105.2.2.1 m_105.2.2.2.1) := rfl
set_option maxRecDepth 100000 in
theorem cp_106 : lw_tbl[706]? = some (Cond.code m_106.1 m_106.2.1 m_106.2.2.1 m_106.2.2.2.1) := rfl
set_option maxRecDepth 100000 in
theorem cp_107 : lw_tbl[719]? = some (Cond.code m_107.1 m_107.2.1 m_107.2.2.1 m_107.2.2.2.1) := rfl
set_option maxRecDepth 100000 in
theorem cp_108 : lw_tbl[748]? = some (Cond.code m_108.1 m_108.2.1 m_108.2.2.1 m_108.2.2.2.1) := rfl
set_option maxRecDepth 100000 in
theorem cp_109 : lw_tbl[752]? = some (Cond.code m_109.1 m_109.2.1 m_109.2.2.1 m_109.2.2.2.1) := rfl
set_option maxRecDepth 100000 in
theorem cp_110 : lw_tbl[777]? = some (Cond.code m_110.1 m_110.2.1 m_110.2.2.1 m_110.2.2.2.1) := rfl
set_option maxRecDepth 100000 in
theorem cp_111 : lw_tbl[781]? = some (Cond.code m_111.1 m_111.2.1 m_111.2.2.1 m_111.2.2.2.1) := rfl
set_option maxRecDepth 100000 in
theorem cp_112 : lw_tbl[791]? = some (Cond.code m_112.1 m_112.2.1 m_112.2.2.1 m_112.2.2.2.1) := rfl
set_option maxRecDepth 100000 in
theorem cp_113 : lw_tbl[795]? = some (Cond.code m_113.1 m_113.2.1 m_113.2.2.1 m_113.2.2.2.1) := rfl
set_option maxRecDepth 100000 in
theorem cp_114 : lw_tbl[802]? = some (Cond.code m_114.1 m_114.2.1 m_114.2.2.1 m_114.2.2.2.1) := rfl
set_option maxRecDepth 100000 in
theorem cp_115 : lw_tbl[806]? = some (Cond.code m_115.1 m_115.2.1 m_115.2.2.1 m_115.2.2.2.1) := rfl
set_option maxRecDepth 100000 in
theorem cp_116 : lw_tbl[810]? = some (Cond.code m_116.1 m_116.2.1 m_116.2.2.1 m_116.2.2.2.1) := rfl
set_option maxRecDepth 100000 in
theorem cp_117 : lw_tbl[831]? = some (Cond.code m_117.1 m_117.2.1 m_117.2.2.1 m_117.2.2.2.1) := rfl
set_option maxRecDepth 100000 in
theorem cp_118 : lw_tbl[835]? = some (Cond.code m_118.1 m_118.2.1 m_118.2.2.1 m_118.2.2.2.1) := rfl
set_option maxRecDepth 100000 in
theorem cp_119 : lw_tbl[556]? = some (Cond.code m_119.1 m_119.2.1 m_119.2.2.1 m_119.2.2.2.1) := rfl
set_option maxRecDepth 100000 in
theorem cp_120 : lw_tbl[452]? = some (Cond.code m_120.1 m_120.2.1 m_120.2.2.1 m_120.2.2.2.1) := rfl
set_option maxRecDepth 100000 in
theorem cp_121 : lw_tbl[574]? = some (Cond.code m_121.1 m_121.2.1 m_121.2.2.1 m_121.2.2.2.1) := rfl
set_option maxRecDepth 100000 in
theorem cp_122 : lw_tbl[798]? = some (Cond.code m_122.1 m_122.2.1 m_122.2.2.1 m_122.2.2.2.1) := rfl
set_option maxRecDepth 100000 in
theorem cp_123 : lw_tbl[336]? = some (Cond.code m_123.1 m_123.2.1 m_123.2.2.1 m_123.2.2.2.1) := rfl
set_option maxRecDepth 100000 in
theorem cp_124 : lw_tbl[339]? = some (Cond.code m_124.1 m_124.2.1 m_124.2.2.1 m_124.2.2.2.1) := rfl
set_option maxRecDepth 100000 in
theorem cp_125 : lw_tbl[333]? = some (Cond.code m_125.1 m_125.2.1 m_125.2.2.1 m_125.2.2.2.1) := rfl
set_option maxRecDepth 100000 in
theorem cp_126 : lw_tbl[385]? = some (Cond.code m_126.1 m_126.2.1 m_126.2.2.1 m_126.2.2.2.1) := rfl
set_option maxRecDepth 100000 in
theorem cp_127 : lw_tbl[463]? = some (Cond.code m_127.1 m_127.2.1 m_127.2.2.1 m_127.2.2.2.1) := rfl
set_option maxRecDepth 100000 in
theorem cp_128 : lw_tbl[840]? = some (Cond.code m_128.1 m_128.2.1 m_128.2.2.1 m_128.2.2.2.1) := rfl
set_option maxRecDepth 100000 in
theorem cp_129 : lw_tbl[933]? = some (Cond.code m_129.1 m_129.2.1 m_129.2.2.1 m_129.2.2.2.1) := rfl
set_option maxRecDepth 100000 in
theorem cp_130 : lw_tbl[1124]? = some (Cond.code m_130.1 m_130.2.1 m_130.2.2.1 m_130.2.2.2.1) := rfl
set_option maxRecDepth 100000 in
theorem cp_131 : lw_tbl[936]? = some (Cond.code m_131.1 m_131.2.1 m_131.2.2.1 m_131.2.2.2.1) := rfl
set_option maxRecDepth 100000 in
theorem cp_132 : lw_tbl[939]? = some (Cond.code m_132.1 m_132.2.1 m_132.2.2.1 m_132.2.2.2.1) := rfl
set_option maxRecDepth 100000 in
theorem cp_133 : lw_tbl[1006]? = some (Cond.code m_133.1 m_133.2.1 m_133.2.2.1 m_133.2.2.2.1) := rfl
set_option maxRecDepth 100000 in
theorem cp_134 : lw_tbl[1022]? = some (Cond.code m_134.1 m_134.2.1 m_134.2.2.1 m_134.2.2.2.1) := rfl
set_option maxRecDepth 100000 in
theorem cp_135 : lw_tbl[1030]? = some (Cond.code m_135.1 m_135.2.1 m_135.2.2.1 m_135.2.2.2.1) := rfl
set_option maxRecDepth 100000 in
theorem cp_136 : lw_tbl[1033]? = some (Cond.code m_136.1 m_136.2.1 m_136.2.2.1 m_136.2.2.2.1) := rfl
set_option maxRecDepth 100000 in
theorem cp_137 : lw_tbl[963]? = some (Cond.code m_137.1 m_137.2.1 m_137.2.2.1 m_137.2.2.2.1) := rfl
set_option maxRecDepth 100000 in
theorem cp_138 : lw_tbl[974]? = some (Cond.code m_138.1 m_138.2.1 m_138.2.2.1 m_138.2.2.2.1) := rfl
set_option maxRecDepth 100000 in
theorem cp_139 : lw_tbl[970]? = some (Cond.code m_139.1 m_139.2.1 m_139.2.2.1 m_139.2.2.2.1) := rfl
set_option maxRecDepth 100000 in
theorem cp_140 : lw_tbl[986]? = some (Cond.code m_140.1 m_140.2.1 m_140.2.2.1 m_140.2.2.2.1) := rfl
set_option maxRecDepth 100000 in
theorem cp_141 : lw_tbl[990]? = some (Cond.code m_141.1 m_141.2.1 m_141.2.2.1 m_141.2.2.2.1) := rfl
set_option maxRecDepth 100000 in
theorem cp_142 : lw_tbl[942]? = some (Cond.code m_142.1 m_142.2.1 m_142.2.2.1 m_142.2.2.2.1) := rfl
set_option maxRecDepth 100000 in
theorem cp_143 : lw_tbl[982]? = some (Cond.code m_143.1 m_143.2.1 m_143.2.2.1 m_143.2.2.2.1) := rfl
set_option maxRecDepth 100000 in
theorem cp_144 : lw_tbl[946]? = some (Cond.code m_144.1 m_144.2.1 m_144.2.2.1 m_144.2.2.2.1) := rfl
set_option maxRecDepth 100000 in
theorem cp_145 : lw_tbl[978]? = some (Cond.code m_145.1 m_145.2.1 m_145.2.2.1 m_145.2.2.2.1) := rfl
set_option maxRecDepth 100000 in
theorem cp_146 : lw_tbl[1026]? = some (Cond.code m_146.1 m_146.2.1 m_146.2.2.1 m_146.2.2.2.1) := rfl
set_option maxRecDepth 100000 in
theorem cp_147 : lw_tbl[930]? = some (Cond.code m_147.1 m_147.2.1 m_147.2.2.1 m_147.2.2.2.1) := rfl
set_option maxRecDepth 100000 in
theorem cp_148 : lw_tbl[927]? = some (Cond.code m_148.1 m_148.2.1 m_148.2.2.1 m_148.2.2.2.1) := rfl
set_option maxRecDepth 100000 in
theorem cp_149 : lw_tbl[950]? = some (Cond.code m_149.1 m_149.2.1 m_149.2.2.1 m_149.2.2.2.1) := rfl
set_option maxRecDepth 100000 in
theorem cp_150 : lw_tbl[954]? = some (Cond.code m_150.1 m_150.2.1 m_150.2.2.1 m_150.2.2.2.1) := rfl
set_option maxRecDepth 100000 in
theorem cp_151 : lw_tbl[966]? = some (Cond.code m_151.1 m_151.2.1 m_151.2.2.1 m_151.2.2.2.1) := rfl
set_option maxRecDepth 100000 in
theorem cp_152 : lw_tbl[959]? = some (Cond.code m_152.1 m_152.2.1 m_152.2.2.1 m_152.2.2.2.1) := rfl
set_option maxRecDepth 100000 in
theorem cp_153 : lw_tbl[994]? = some (Cond.code m_153.1 m_153.2.1 m_153.2.2.1 m_153.2.2.2.1) := rfl
set_option maxRecDepth 100000 in
theorem cp_154 : lw_tbl[1002]? = some (Cond.code m_154.1 m_154.2.1 m_154.2.2.1 m_154.2.2.2.1) := rfl
set_option maxRecDepth 100000 in
theorem cp_155 : lw_tbl[998]? = some (Cond.code m_155.1 m_155.2.1 m_155.2.2.1 m_155.2.2.2.1) := rfl
set_option maxRecDepth 100000 in
theorem cp_156 : lw_tbl[1010]? = some (Cond.code m_156.1 m_156.2.1 m_156.2.2.1 m_156.2.2.2.1) := rfl
set_option maxRecDepth 100000 in
theorem cp_157 : lw_tbl[1014]? = some (Cond.code m_157.1 m_157.2.1 m_157.2.2.1 m_157.2.2.2.1) := rfl
set_option maxRecDepth 100000 in
theorem cp_158 : lw_tbl[1018]? = some (Cond.code m_158.1 m_158.2.1 m_158.2.2.1 m_158.2.2.2.1) := rfl
set_option maxRecDepth 100000 in
theorem cp_159 : lw_tbl[1037]? = some (Cond.code m_159.1 m_159.2.1 m_159.2.2.1 m_159.2.2.2.1) := rfl
set_option maxRecDepth 100000 in
theorem cp_160 : lw_tbl[1045]? = some (Cond.code m_160.1 m_160.2.1 m_160.2.2.1 m_160.2.2.2.1) := rfl
set_option maxRecDepth 100000 in
theorem cp_161 : lw_tbl[1041]? = some (Cond.code m_161.1 m_161.2.1 m_161.2.2.1 m_161.2.2.2.1) := rfl
set_option maxRecDepth 100000 in
theorem cp_162 : lw_tbl[1049]? = some (Cond.code m_162.1 m_162.2.1 m_162.2.2.1 m_162.2.2.2.1) := rfl
set_option maxRecDepth 100000 in
theorem cp_163 : lw_tbl[1053]? = some (Cond.code m_163.1 m_163.2.1 m_163.2.2.1 m_163.2.2.2.1) := rfl
set_option maxRecDepth 100000 in
theorem cp_164 : lw_tbl[1061]? = some (Cond.code m_164.1 m_164.2.1 m_164.2.2.1 m_164.2.2.2.1) := rfl
set_option maxRecDepth 100000 in
theorem cp_165 : lw_tbl[1069]? = some (Cond.code m_165.1 m_165.2.1 m_165.2.2.1 m_165.2.2.2.1) := rfl
set_option maxRecDepth 100000 in
theorem cp_166 : lw_tbl[1065]? = some (Cond.code m_166.1 m_166.2.1 m_166.2.2.1 m_166.2.2.2.1) := rfl
set_option maxRecDepth 100000 in
theorem cp_167 : lw_tbl[1057]? = some (Cond.code m_167.1 m_167.2.1 m_167.2.2.1 m_167.2.2.2.1) := rfl
set_option maxRecDepth 100000 in
theorem cp_168 : lw_tbl[1073]? = some (Cond.code m_168.1 m_168.2.1 m_168.2.2.1 m_168.2.2.2.1) := rfl
set_option maxRecDepth 100000 in
theorem cp_169 : lw_tbl[1088]? = some (Cond.code m_169.1 m_169.2.1 m_169.2.2.1 m_169.2.2.2.1) := rfl
set_option maxRecDepth 100000 in
theorem cp_170 : lw_tbl[1085]? = some (Cond.code m_170.1 m_170.2.1 m_170.2.2.1 m_170.2.2.2.1) := rfl
set_option maxRecDepth 100000 in
theorem cp_171 : lw_tbl[1092]? = some (Cond.code m_171.1 m_171.2.1 m_171.2.2.1 m_171.2.2.2.1) := rfl
set_option maxRecDepth 100000 in
theorem cp_172 : lw_tbl[1096]? = some (Cond.code m_172.1 m_172.2.1 m_172.2.2.1 m_172.2.2.2.1) := rfl
set_option maxRecDepth 100000 in
theorem cp_173 : lw_tbl[1112]? = some (Cond.code m_173.1 m_173.2.1 m_173.2.2.1 m_173.2.2.2.1) := rfl
set_option maxRecDepth 100000 in
theorem cp_174 : lw_tbl[1116]? = some (Cond.code m_174.1 m_174.2.1 m_174.2.2.1 m_174.2.2.2.1) := rfl
set_option maxRecDepth 100000 in
theorem cp_175 : lw_tbl[1108]? = some (Cond.code m_175.1 m_175.2.1 m_175.2.2.1 m_175.2.2.2.1) := rfl
set_option maxRecDepth 100000 in
theorem cp_176 : lw_tbl[1104]? = some (Cond.code m_176.1 m_176.2.1 m_176.2.2.1 m_176.2.2.2.1) := rfl
set_option maxRecDepth 100000 in
theorem cp_177 : lw_tbl[1100]? = some (Cond.code m_177.1 m_177.2.1 m_177.2.2.1 m_177.2.2.2.1) := rfl
set_option maxRecDepth 100000 in
theorem cp_178 : lw_tbl[1132]? = some (Cond.code m_178.1 m_178.2.1 m_178.2.2.1 m_178.2.2.2.1) := rfl
set_option maxRecDepth 100000 in
theorem cp_179 : lw_tbl[1140]? = some (Cond.code m_179.1 m_179.2.1 m_179.2.2.1 m_179.2.2.2.1) := rfl
set_option maxRecDepth 100000 in
theorem cp_180 : lw_tbl[1160]? = some (Cond.code m_180.1 m_180.2.1 m_180.2.2.1 m_180.2.2.2.1) := rfl
set_option maxRecDepth 100000 in
theorem cp_181 : lw_tbl[1144]? = some (Cond.code m_181.1 m_181.2.1 m_181.2.2.1 m_181.2.2.2.1) := rfl
set_option maxRecDepth 100000 in
theorem cp_182 : lw_tbl[1156]? = some (Cond.code m_182.1 m_182.2.1 m_182.2.2.1 m_182.2.2.2.1) := rfl
set_option maxRecDepth 100000 in
theorem cp_183 : lw_tbl[1152]? = some (Cond.code m_183.1 m_183.2.1 m_183.2.2.1 m_183.2.2.2.1) := rfl
set_option maxRecDepth 100000 in
theorem cp_184 : lw_tbl[1148]? = some (Cond.code m_184.1 m_184.2.1 m_184.2.2.1 m_184.2.2.2.1) := rfl
set_option maxRecDepth 100000 in
theorem cp_185 : lw_tbl[1136]? = some (Cond.code m_185.1 m_185.2.1 m_185.2.2.1 m_185.2.2.2.1) := rfl
set_option maxRecDepth 100000 in
theorem cp_186 : lw_tbl[1128]? = some (Cond.code m_186.1 m_186.2.1 m_186.2.2.1 m_186.2.2.2.1) := rfl
set_option maxRecDepth 100000 in
theorem cp_187 : lw_tbl[1121]? = some (Cond.code m_187.1 m_187.2.1 m_187.2.2.1 m_187.2.2.2.1) := rfl
set_option maxRecDepth 100000 in
theorem cp_188 : lw_tbl[1164]? = some (Cond.code m_188.1 m_188.2.1 m_188.2.2.1 m_188.2.2.2.1) := rfl
set_option maxRecDepth 100000 in
theorem cp_189 : lw_tbl[1168]? = some (Cond.code m_189.1 m_189.2.1 m_189.2.2.1 m_189.2.2.2.1) := rfl
set_option maxRecDepth 100000 in
theorem cp_190 : lw_tbl[1081]? = some (Cond.code m_190.1 m_190.2.1 m_190.2.2.1 m_190.2.2.2.1) := rfl
set_option maxRecDepth 100000 in
theorem cp_191 : lw_tbl[1077]? = some (Cond.code m_191.1 m_191.2.1 m_191.2.2.1 m_191.2.2.2.1) := rfl
set_option maxRecDepth 100000 in
theorem cp_192 : lw_tbl[1182]? = some (Cond.code m_192.1 m_192.2.1 m_192.2.2.1 m_192.2.2.2.1) := rfl
set_option maxRecDepth 100000 in
theorem cp_193 : lw_tbl[1186]? = some (Cond.code m_193.1 m_193.2.1 m_193.2.2.1 m_193.2.2.2.1) := rfl
set_option maxRecDepth 100000 in
theorem cp_194 : lw_tbl[1172]? = some (Cond.code m_194.1 m_194.2.1 m_194.2.2.1 m_194.2.2.2.1) := rfl
set_option maxRecDepth 100000 in
theorem cp_195 : lw_tbl[1190]? = some (Cond.code m_195.1 m_195.2.1 m_195.2.2.1 m_195.2.2.2.1) := rfl
set_option maxRecDepth 100000 in
theorem cp_196 : lw_tbl[1198]? = some (Cond.code m_196.1 m_196.2.1 m_196.2.2.1 m_196.2.2.2.1) := rfl
set_option maxRecDepth 100000 in
theorem cp_197 : lw_tbl[1202]? = some (Cond.code m_197.1 m_197.2.1 m_197.2.2.1 m_197.2.2.2.1) := rfl
set_option maxRecDepth 100000 in
theorem cp_198 : lw_tbl[1194]? = some (Cond.code m_198.1 m_198.2.1 m_198.2.2.1 m_198.2.2.2.1) := rfl
set_option maxRecDepth 100000 in
theorem cp_199 : lw_tbl[1206]? = some (Cond.code m_199.1 m_199.2.1 m_199.2.2.1 m_199.2.2.2.1) := rfl
set_option maxRecDepth 100000 in
theorem cp_200 : lw_tbl[1210]? = some (Cond.code m_200.1 m_200.2.1 m_200.2.2.1 m_200.2.2.2.1) := rfl
set_option maxRecDepth 100000 in
theorem cp_201 : lw_tbl[1214]? = some (Cond.code m_201.1 m_201.2.1 m_201.2.2.1 m_201.2.2.2.1) := rfl
set_option maxRecDepth 100000 in
theorem cp_202 : lw_tbl[1221]? = some (Cond.code m_202.1 m_202.2.1 m_202.2.2.1 m_202.2.2.2.1) := rfl
set_option maxRecDepth 100000 in
theorem cp_203 : lw_tbl[1218]? = some (Cond.code m_203.1 m_203.2.1 m_203.2.2.1 m_203.2.2.2.1) := rfl
set_option maxRecDepth 100000 in
theorem cp_204 : lw_tbl[1225]? = some (Cond.code m_204.1 m_204.2.1 m_204.2.2.1 m_204.2.2.2.1) := rfl
set_option maxRecDepth 100000 in
theorem cp_205 : lw_tbl[1229]? = some (Cond.code m_205.1 m_205.2.1 m_205.2.2.1 m_205.2.2.2.1) := rfl
set_option maxRecDepth 100000 in
theorem cp_206 : lw_tbl[1237]? = some (Cond.code m_206.1 m_206.2.1 m_206.2.2.1 m_206.2.2.2.1) := rfl
set_option maxRecDepth 100000 in
theorem cp_207 : lw_tbl[1233]? = some (Cond.code m_207.1 m_207.2.1 m_207.2.2.1 m_207.2.2.2.1) := rfl
set_option maxRecDepth 100000 in
theorem cp_208 : lw_tbl[1175]? = some (Cond.code m_208.1 m_208.2.1 m_208.2.2.1 m_208.2.2.2.1) := rfl
