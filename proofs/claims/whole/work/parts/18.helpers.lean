theorem zq93 : (Cond.initialized "VillageWavesLaw" : Cond) ∈ zGW := zgw 93 (by decide +kernel) (by decide +kernel)
theorem zq458 : (Cond.methodLink "VillageWavesLaw" 120 ⟨"VillageWaves", "load", "()I"⟩ : Cond) ∈ zGW := zgw 458 (by decide +kernel) (by decide +kernel)
theorem zq459 : (Cond.instanceMethod ⟨"VillageWaves", "load", "()I"⟩ : Cond) ∈ zGW := zgw 459 (by decide +kernel) (by decide +kernel)
theorem zq460 : (Cond.selects "VillageWaves" ⟨"VillageWaves", "load", "()I"⟩ ⟨"VillageWaves", "load", "()I"⟩ : Cond) ∈ zGW := zgw 460 (by decide +kernel) (by decide +kernel)
theorem zq461 : (Cond.code ⟨"VillageWaves", "load", "()I"⟩ prog_1_method_4_code 2 (some .int) : Cond) ∈ zGW := zgw 461 (by decide +kernel) (by decide +kernel)
theorem zq671 : (Cond.methodLink "VillageWavesLaw" 124 ⟨"VillageWaves", "errorCode", "()I"⟩ : Cond) ∈ zGW := zgw 671 (by decide +kernel) (by decide +kernel)
theorem zq672 : (Cond.instanceMethod ⟨"VillageWaves", "errorCode", "()I"⟩ : Cond) ∈ zGW := zgw 672 (by decide +kernel) (by decide +kernel)
theorem zq673 : (Cond.selects "VillageWaves" ⟨"VillageWaves", "errorCode", "()I"⟩ ⟨"VillageWaves", "errorCode", "()I"⟩ : Cond) ∈ zGW := zgw 673 (by decide +kernel) (by decide +kernel)
theorem zq674 : (Cond.code ⟨"VillageWaves", "errorCode", "()I"⟩ prog_1_method_5_code 1 (some .int) : Cond) ∈ zGW := zgw 674 (by decide +kernel) (by decide +kernel)
theorem zq675 : (Cond.methodLink "VillageWavesLaw" 128 ⟨"VillageWaves", "errorPosition", "()I"⟩ : Cond) ∈ zGW := zgw 675 (by decide +kernel) (by decide +kernel)
theorem zq676 : (Cond.instanceMethod ⟨"VillageWaves", "errorPosition", "()I"⟩ : Cond) ∈ zGW := zgw 676 (by decide +kernel) (by decide +kernel)
theorem zq677 : (Cond.selects "VillageWaves" ⟨"VillageWaves", "errorPosition", "()I"⟩ ⟨"VillageWaves", "errorPosition", "()I"⟩ : Cond) ∈ zGW := zgw 677 (by decide +kernel) (by decide +kernel)
theorem zq678 : (Cond.code ⟨"VillageWaves", "errorPosition", "()I"⟩ prog_1_method_6_code 1 (some .int) : Cond) ∈ zGW := zgw 678 (by decide +kernel) (by decide +kernel)
theorem zq679 : (Cond.methodLink "VillageWavesLaw" 182 ⟨"VillageWaves", "wishes", "()I"⟩ : Cond) ∈ zGW := zgw 679 (by decide +kernel) (by decide +kernel)
theorem zq680 : (Cond.instanceMethod ⟨"VillageWaves", "wishes", "()I"⟩ : Cond) ∈ zGW := zgw 680 (by decide +kernel) (by decide +kernel)
theorem zq681 : (Cond.selects "VillageWaves" ⟨"VillageWaves", "wishes", "()I"⟩ ⟨"VillageWaves", "wishes", "()I"⟩ : Cond) ∈ zGW := zgw 681 (by decide +kernel) (by decide +kernel)
theorem zq682 : (Cond.code ⟨"VillageWaves", "wishes", "()I"⟩ prog_1_method_22_code 1 (some .int) : Cond) ∈ zGW := zgw 682 (by decide +kernel) (by decide +kernel)
theorem zq730 : (Cond.methodLink "VillageWavesLaw" 186 ⟨"VillageWaves", "next", "()I"⟩ : Cond) ∈ zGW := zgw 730 (by decide +kernel) (by decide +kernel)
theorem zq731 : (Cond.instanceMethod ⟨"VillageWaves", "next", "()I"⟩ : Cond) ∈ zGW := zgw 731 (by decide +kernel) (by decide +kernel)
theorem zq732 : (Cond.selects "VillageWaves" ⟨"VillageWaves", "next", "()I"⟩ ⟨"VillageWaves", "next", "()I"⟩ : Cond) ∈ zGW := zgw 732 (by decide +kernel) (by decide +kernel)
theorem zq733 : (Cond.code ⟨"VillageWaves", "next", "()I"⟩ prog_1_method_23_code 2 (some .int) : Cond) ∈ zGW := zgw 733 (by decide +kernel) (by decide +kernel)
theorem zq748 : (Cond.methodLink "VillageWavesLaw" 203 ⟨"VillageWaves", "meanBattery", "()F"⟩ : Cond) ∈ zGW := zgw 748 (by decide +kernel) (by decide +kernel)
theorem zq749 : (Cond.instanceMethod ⟨"VillageWaves", "meanBattery", "()F"⟩ : Cond) ∈ zGW := zgw 749 (by decide +kernel) (by decide +kernel)
theorem zq750 : (Cond.selects "VillageWaves" ⟨"VillageWaves", "meanBattery", "()F"⟩ ⟨"VillageWaves", "meanBattery", "()F"⟩ : Cond) ∈ zGW := zgw 750 (by decide +kernel) (by decide +kernel)
theorem zq751 : (Cond.code ⟨"VillageWaves", "meanBattery", "()F"⟩ prog_1_method_28_code 2 (some .float) : Cond) ∈ zGW := zgw 751 (by decide +kernel) (by decide +kernel)
theorem zq757 : (Cond.methodLink "VillageWavesLaw" 107 ⟨"VillageWavesLaw", "appendText", "(LVillageWaves;I[J)I"⟩ : Cond) ∈ zGW := zgw 757 (by decide +kernel) (by decide +kernel)
theorem zq758 : (Cond.static ⟨"VillageWavesLaw", "appendText", "(LVillageWaves;I[J)I"⟩ : Cond) ∈ zGW := zgw 758 (by decide +kernel) (by decide +kernel)
theorem zq759 : (Cond.codeWith ⟨"VillageWavesLaw", "appendText", "(LVillageWaves;I[J)I"⟩ method_3_code 4 (some .int) [(0, 9, 12, 13)] : Cond) ∈ zGW := zgw 759 (by decide +kernel) (by decide +kernel)
theorem zq760 : (Cond.classLink "VillageWavesLaw" 13 "java/lang/IllegalStateException" : Cond) ∈ zGW := zgw 760 (by decide +kernel) (by decide +kernel)
theorem zq761 : (Cond.methodLink "VillageWavesLaw" 7 ⟨"VillageWaves", "appendText", "(I)I"⟩ : Cond) ∈ zGW := zgw 761 (by decide +kernel) (by decide +kernel)
theorem zq762 : (Cond.instanceMethod ⟨"VillageWaves", "appendText", "(I)I"⟩ : Cond) ∈ zGW := zgw 762 (by decide +kernel) (by decide +kernel)
theorem zq763 : (Cond.selects "VillageWaves" ⟨"VillageWaves", "appendText", "(I)I"⟩ ⟨"VillageWaves", "appendText", "(I)I"⟩ : Cond) ∈ zGW := zgw 763 (by decide +kernel) (by decide +kernel)
theorem zq764 : (Cond.code ⟨"VillageWaves", "appendText", "(I)I"⟩ prog_1_method_2_code 3 (some .int) : Cond) ∈ zGW := zgw 764 (by decide +kernel) (by decide +kernel)
theorem zp767 : (Cond.castable "java/lang/IllegalStateException" "java/lang/IllegalStateException" : Cond) ∈ zNW := znw 767 (by decide +kernel) (by decide +kernel)
theorem zq837 : (Cond.methodLink "VillageWavesLaw" 117 ⟨"VillageWavesLaw", "truncateText", "(LVillageWaves;I[J)I"⟩ : Cond) ∈ zGW := zgw 837 (by decide +kernel) (by decide +kernel)
theorem zq838 : (Cond.static ⟨"VillageWavesLaw", "truncateText", "(LVillageWaves;I[J)I"⟩ : Cond) ∈ zGW := zgw 838 (by decide +kernel) (by decide +kernel)
theorem zq839 : (Cond.codeWith ⟨"VillageWavesLaw", "truncateText", "(LVillageWaves;I[J)I"⟩ method_4_code 4 (some .int) [(0, 9, 12, 18)] : Cond) ∈ zGW := zgw 839 (by decide +kernel) (by decide +kernel)
theorem zq840 : (Cond.classLink "VillageWavesLaw" 18 "java/lang/IllegalArgumentException" : Cond) ∈ zGW := zgw 840 (by decide +kernel) (by decide +kernel)
theorem zq841 : (Cond.methodLink "VillageWavesLaw" 15 ⟨"VillageWaves", "truncateText", "(I)I"⟩ : Cond) ∈ zGW := zgw 841 (by decide +kernel) (by decide +kernel)
theorem zq842 : (Cond.instanceMethod ⟨"VillageWaves", "truncateText", "(I)I"⟩ : Cond) ∈ zGW := zgw 842 (by decide +kernel) (by decide +kernel)
theorem zq843 : (Cond.selects "VillageWaves" ⟨"VillageWaves", "truncateText", "(I)I"⟩ ⟨"VillageWaves", "truncateText", "(I)I"⟩ : Cond) ∈ zGW := zgw 843 (by decide +kernel) (by decide +kernel)
theorem zq844 : (Cond.code ⟨"VillageWaves", "truncateText", "(I)I"⟩ prog_1_method_3_code 2 (some .int) : Cond) ∈ zGW := zgw 844 (by decide +kernel) (by decide +kernel)
theorem zp850 : (Cond.castable "java/lang/IllegalArgumentException" "java/lang/IllegalArgumentException" : Cond) ∈ zNW := znw 850 (by decide +kernel) (by decide +kernel)
theorem zq864 : (Cond.methodLink "VillageWavesLaw" 132 ⟨"VillageWavesLaw", "addHouse", "(LVillageWaves;IIIII[J)I"⟩ : Cond) ∈ zGW := zgw 864 (by decide +kernel) (by decide +kernel)
theorem zq865 : (Cond.static ⟨"VillageWavesLaw", "addHouse", "(LVillageWaves;IIIII[J)I"⟩ : Cond) ∈ zGW := zgw 865 (by decide +kernel) (by decide +kernel)
theorem zq866 : (Cond.codeWith ⟨"VillageWavesLaw", "addHouse", "(LVillageWaves;IIIII[J)I"⟩ method_5_code 8 (some .int) [(0, 16, 19, 18), (0, 16, 23, 13)] : Cond) ∈ zGW := zgw 866 (by decide +kernel) (by decide +kernel)
theorem zq867 : (Cond.methodLink "VillageWavesLaw" 20 ⟨"VillageWaves", "addHouse", "(IIIII)I"⟩ : Cond) ∈ zGW := zgw 867 (by decide +kernel) (by decide +kernel)
theorem zq868 : (Cond.instanceMethod ⟨"VillageWaves", "addHouse", "(IIIII)I"⟩ : Cond) ∈ zGW := zgw 868 (by decide +kernel) (by decide +kernel)
theorem zq869 : (Cond.selects "VillageWaves" ⟨"VillageWaves", "addHouse", "(IIIII)I"⟩ ⟨"VillageWaves", "addHouse", "(IIIII)I"⟩ : Cond) ∈ zGW := zgw 869 (by decide +kernel) (by decide +kernel)
theorem zq870 : (Cond.code ⟨"VillageWaves", "addHouse", "(IIIII)I"⟩ prog_1_method_7_code 6 (some .int) : Cond) ∈ zGW := zgw 870 (by decide +kernel) (by decide +kernel)
theorem zq874 : (Cond.methodLink "VillageWavesLaw" 136 ⟨"VillageWavesLaw", "setQuiet", "(LVillageWaves;III)I"⟩ : Cond) ∈ zGW := zgw 874 (by decide +kernel) (by decide +kernel)
theorem zq875 : (Cond.static ⟨"VillageWavesLaw", "setQuiet", "(LVillageWaves;III)I"⟩ : Cond) ∈ zGW := zgw 875 (by decide +kernel) (by decide +kernel)
theorem zq876 : (Cond.codeWith ⟨"VillageWavesLaw", "setQuiet", "(LVillageWaves;III)I"⟩ method_6_code 5 (some .int) [(0, 7, 10, 28), (0, 7, 14, 18)] : Cond) ∈ zGW := zgw 876 (by decide +kernel) (by decide +kernel)
theorem zq877 : (Cond.classLink "VillageWavesLaw" 28 "java/lang/IndexOutOfBoundsException" : Cond) ∈ zGW := zgw 877 (by decide +kernel) (by decide +kernel)
theorem zq878 : (Cond.methodLink "VillageWavesLaw" 24 ⟨"VillageWaves", "setQuiet", "(III)V"⟩ : Cond) ∈ zGW := zgw 878 (by decide +kernel) (by decide +kernel)
theorem zq879 : (Cond.instanceMethod ⟨"VillageWaves", "setQuiet", "(III)V"⟩ : Cond) ∈ zGW := zgw 879 (by decide +kernel) (by decide +kernel)
theorem zq880 : (Cond.selects "VillageWaves" ⟨"VillageWaves", "setQuiet", "(III)V"⟩ ⟨"VillageWaves", "setQuiet", "(III)V"⟩ : Cond) ∈ zGW := zgw 880 (by decide +kernel) (by decide +kernel)
theorem zq881 : (Cond.code ⟨"VillageWaves", "setQuiet", "(III)V"⟩ prog_1_method_8_code 4 none : Cond) ∈ zGW := zgw 881 (by decide +kernel) (by decide +kernel)
theorem zp888 : (Cond.castable "java/lang/IndexOutOfBoundsException" "java/lang/IndexOutOfBoundsException" : Cond) ∈ zNW := znw 888 (by decide +kernel) (by decide +kernel)
theorem zq904 : (Cond.methodLink "VillageWavesLaw" 140 ⟨"VillageWavesLaw", "charge", "(LVillageWaves;II[J)I"⟩ : Cond) ∈ zGW := zgw 904 (by decide +kernel) (by decide +kernel)
theorem zq905 : (Cond.static ⟨"VillageWavesLaw", "charge", "(LVillageWaves;II[J)I"⟩ : Cond) ∈ zGW := zgw 905 (by decide +kernel) (by decide +kernel)
theorem zq906 : (Cond.codeWith ⟨"VillageWavesLaw", "charge", "(LVillageWaves;II[J)I"⟩ method_7_code 5 (some .int) [(0, 10, 13, 28), (0, 10, 17, 18)] : Cond) ∈ zGW := zgw 906 (by decide +kernel) (by decide +kernel)
theorem zq907 : (Cond.methodLink "VillageWavesLaw" 30 ⟨"VillageWaves", "charge", "(II)I"⟩ : Cond) ∈ zGW := zgw 907 (by decide +kernel) (by decide +kernel)
theorem zq908 : (Cond.instanceMethod ⟨"VillageWaves", "charge", "(II)I"⟩ : Cond) ∈ zGW := zgw 908 (by decide +kernel) (by decide +kernel)
theorem zq909 : (Cond.selects "VillageWaves" ⟨"VillageWaves", "charge", "(II)I"⟩ ⟨"VillageWaves", "charge", "(II)I"⟩ : Cond) ∈ zGW := zgw 909 (by decide +kernel) (by decide +kernel)
theorem zq910 : (Cond.code ⟨"VillageWaves", "charge", "(II)I"⟩ prog_1_method_9_code 3 (some .int) : Cond) ∈ zGW := zgw 910 (by decide +kernel) (by decide +kernel)
theorem zq913 : (Cond.methodLink "VillageWavesLaw" 144 ⟨"VillageWavesLaw", "set", "(LVillageWaves;II[J)I"⟩ : Cond) ∈ zGW := zgw 913 (by decide +kernel) (by decide +kernel)
theorem zq914 : (Cond.static ⟨"VillageWavesLaw", "set", "(LVillageWaves;II[J)I"⟩ : Cond) ∈ zGW := zgw 914 (by decide +kernel) (by decide +kernel)
theorem zq915 : (Cond.codeWith ⟨"VillageWavesLaw", "set", "(LVillageWaves;II[J)I"⟩ method_8_code 5 (some .int) [(0, 10, 13, 18)] : Cond) ∈ zGW := zgw 915 (by decide +kernel) (by decide +kernel)
theorem zq916 : (Cond.methodLink "VillageWavesLaw" 34 ⟨"VillageWaves", "set", "(II)I"⟩ : Cond) ∈ zGW := zgw 916 (by decide +kernel) (by decide +kernel)
theorem zq917 : (Cond.instanceMethod ⟨"VillageWaves", "set", "(II)I"⟩ : Cond) ∈ zGW := zgw 917 (by decide +kernel) (by decide +kernel)
theorem zq918 : (Cond.selects "VillageWaves" ⟨"VillageWaves", "set", "(II)I"⟩ ⟨"VillageWaves", "set", "(II)I"⟩ : Cond) ∈ zGW := zgw 918 (by decide +kernel) (by decide +kernel)
theorem zq919 : (Cond.code ⟨"VillageWaves", "set", "(II)I"⟩ prog_1_method_10_code 4 (some .int) : Cond) ∈ zGW := zgw 919 (by decide +kernel) (by decide +kernel)
theorem zq923 : (Cond.methodLink "VillageWavesLaw" 147 ⟨"VillageWavesLaw", "seed", "(LVillageWaves;I)I"⟩ : Cond) ∈ zGW := zgw 923 (by decide +kernel) (by decide +kernel)
theorem zq924 : (Cond.static ⟨"VillageWavesLaw", "seed", "(LVillageWaves;I)I"⟩ : Cond) ∈ zGW := zgw 924 (by decide +kernel) (by decide +kernel)
theorem zq925 : (Cond.codeWith ⟨"VillageWavesLaw", "seed", "(LVillageWaves;I)I"⟩ method_9_code 3 (some .int) [(0, 5, 8, 18)] : Cond) ∈ zGW := zgw 925 (by decide +kernel) (by decide +kernel)
theorem zq926 : (Cond.methodLink "VillageWavesLaw" 37 ⟨"VillageWaves", "seed", "(I)V"⟩ : Cond) ∈ zGW := zgw 926 (by decide +kernel) (by decide +kernel)
theorem zq927 : (Cond.instanceMethod ⟨"VillageWaves", "seed", "(I)V"⟩ : Cond) ∈ zGW := zgw 927 (by decide +kernel) (by decide +kernel)
theorem zq928 : (Cond.selects "VillageWaves" ⟨"VillageWaves", "seed", "(I)V"⟩ ⟨"VillageWaves", "seed", "(I)V"⟩ : Cond) ∈ zGW := zgw 928 (by decide +kernel) (by decide +kernel)
theorem zq929 : (Cond.code ⟨"VillageWaves", "seed", "(I)V"⟩ prog_1_method_11_code 2 none : Cond) ∈ zGW := zgw 929 (by decide +kernel) (by decide +kernel)
theorem zq931 : (Cond.methodLink "VillageWavesLaw" 151 ⟨"VillageWavesLaw", "count", "(LVillageWaves;I[J)I"⟩ : Cond) ∈ zGW := zgw 931 (by decide +kernel) (by decide +kernel)
theorem zq932 : (Cond.static ⟨"VillageWavesLaw", "count", "(LVillageWaves;I[J)I"⟩ : Cond) ∈ zGW := zgw 932 (by decide +kernel) (by decide +kernel)
theorem zq933 : (Cond.codeWith ⟨"VillageWavesLaw", "count", "(LVillageWaves;I[J)I"⟩ method_10_code 4 (some .int) [(0, 9, 12, 18)] : Cond) ∈ zGW := zgw 933 (by decide +kernel) (by decide +kernel)
theorem zq934 : (Cond.methodLink "VillageWavesLaw" 41 ⟨"VillageWaves", "count", "(I)I"⟩ : Cond) ∈ zGW := zgw 934 (by decide +kernel) (by decide +kernel)
theorem zq935 : (Cond.instanceMethod ⟨"VillageWaves", "count", "(I)I"⟩ : Cond) ∈ zGW := zgw 935 (by decide +kernel) (by decide +kernel)
theorem zq936 : (Cond.selects "VillageWaves" ⟨"VillageWaves", "count", "(I)I"⟩ ⟨"VillageWaves", "count", "(I)I"⟩ : Cond) ∈ zGW := zgw 936 (by decide +kernel) (by decide +kernel)
theorem zq937 : (Cond.code ⟨"VillageWaves", "count", "(I)I"⟩ prog_1_method_12_code 2 (some .int) : Cond) ∈ zGW := zgw 937 (by decide +kernel) (by decide +kernel)
theorem zq969 : (Cond.methodLink "VillageWavesLaw" 154 ⟨"VillageWavesLaw", "house", "(LVillageWaves;II[J)I"⟩ : Cond) ∈ zGW := zgw 969 (by decide +kernel) (by decide +kernel)
theorem zq970 : (Cond.static ⟨"VillageWavesLaw", "house", "(LVillageWaves;II[J)I"⟩ : Cond) ∈ zGW := zgw 970 (by decide +kernel) (by decide +kernel)
theorem zq971 : (Cond.codeWith ⟨"VillageWavesLaw", "house", "(LVillageWaves;II[J)I"⟩ method_11_code 5 (some .int) [(0, 10, 13, 28), (0, 10, 17, 18)] : Cond) ∈ zGW := zgw 971 (by decide +kernel) (by decide +kernel)
theorem zq972 : (Cond.methodLink "VillageWavesLaw" 44 ⟨"VillageWaves", "house", "(II)I"⟩ : Cond) ∈ zGW := zgw 972 (by decide +kernel) (by decide +kernel)
theorem zq973 : (Cond.instanceMethod ⟨"VillageWaves", "house", "(II)I"⟩ : Cond) ∈ zGW := zgw 973 (by decide +kernel) (by decide +kernel)
theorem zq974 : (Cond.selects "VillageWaves" ⟨"VillageWaves", "house", "(II)I"⟩ ⟨"VillageWaves", "house", "(II)I"⟩ : Cond) ∈ zGW := zgw 974 (by decide +kernel) (by decide +kernel)
theorem zq975 : (Cond.code ⟨"VillageWaves", "house", "(II)I"⟩ prog_1_method_13_code 3 (some .int) : Cond) ∈ zGW := zgw 975 (by decide +kernel) (by decide +kernel)
theorem zq995 : (Cond.methodLink "VillageWavesLaw" 157 ⟨"VillageWavesLaw", "entry", "(LVillageWaves;III[J)I"⟩ : Cond) ∈ zGW := zgw 995 (by decide +kernel) (by decide +kernel)
theorem zq996 : (Cond.static ⟨"VillageWavesLaw", "entry", "(LVillageWaves;III[J)I"⟩ : Cond) ∈ zGW := zgw 996 (by decide +kernel) (by decide +kernel)
theorem zq997 : (Cond.codeWith ⟨"VillageWavesLaw", "entry", "(LVillageWaves;III[J)I"⟩ method_12_code 6 (some .int) [(0, 12, 15, 28), (0, 12, 19, 18)] : Cond) ∈ zGW := zgw 997 (by decide +kernel) (by decide +kernel)
theorem zq998 : (Cond.methodLink "VillageWavesLaw" 47 ⟨"VillageWaves", "entry", "(III)I"⟩ : Cond) ∈ zGW := zgw 998 (by decide +kernel) (by decide +kernel)
theorem zq999 : (Cond.instanceMethod ⟨"VillageWaves", "entry", "(III)I"⟩ : Cond) ∈ zGW := zgw 999 (by decide +kernel) (by decide +kernel)
theorem zq1000 : (Cond.selects "VillageWaves" ⟨"VillageWaves", "entry", "(III)I"⟩ ⟨"VillageWaves", "entry", "(III)I"⟩ : Cond) ∈ zGW := zgw 1000 (by decide +kernel) (by decide +kernel)
theorem zq1001 : (Cond.code ⟨"VillageWaves", "entry", "(III)I"⟩ prog_1_method_14_code 6 (some .int) : Cond) ∈ zGW := zgw 1001 (by decide +kernel) (by decide +kernel)
theorem zq1029 : (Cond.methodLink "VillageWavesLaw" 161 ⟨"VillageWavesLaw", "news", "(LVillageWaves;II[J)I"⟩ : Cond) ∈ zGW := zgw 1029 (by decide +kernel) (by decide +kernel)
theorem zq1030 : (Cond.static ⟨"VillageWavesLaw", "news", "(LVillageWaves;II[J)I"⟩ : Cond) ∈ zGW := zgw 1030 (by decide +kernel) (by decide +kernel)
theorem zq1031 : (Cond.codeWith ⟨"VillageWavesLaw", "news", "(LVillageWaves;II[J)I"⟩ method_13_code 5 (some .int) [(0, 10, 13, 28), (0, 10, 17, 18)] : Cond) ∈ zGW := zgw 1031 (by decide +kernel) (by decide +kernel)
theorem zq1032 : (Cond.methodLink "VillageWavesLaw" 51 ⟨"VillageWaves", "news", "(II)I"⟩ : Cond) ∈ zGW := zgw 1032 (by decide +kernel) (by decide +kernel)
theorem zq1033 : (Cond.instanceMethod ⟨"VillageWaves", "news", "(II)I"⟩ : Cond) ∈ zGW := zgw 1033 (by decide +kernel) (by decide +kernel)
theorem zq1034 : (Cond.selects "VillageWaves" ⟨"VillageWaves", "news", "(II)I"⟩ ⟨"VillageWaves", "news", "(II)I"⟩ : Cond) ∈ zGW := zgw 1034 (by decide +kernel) (by decide +kernel)
theorem zq1035 : (Cond.code ⟨"VillageWaves", "news", "(II)I"⟩ prog_1_method_15_code 3 (some .int) : Cond) ∈ zGW := zgw 1035 (by decide +kernel) (by decide +kernel)
theorem zq1042 : (Cond.methodLink "VillageWavesLaw" 164 ⟨"VillageWavesLaw", "source", "(LVillageWaves;II[J)I"⟩ : Cond) ∈ zGW := zgw 1042 (by decide +kernel) (by decide +kernel)
theorem zq1043 : (Cond.static ⟨"VillageWavesLaw", "source", "(LVillageWaves;II[J)I"⟩ : Cond) ∈ zGW := zgw 1043 (by decide +kernel) (by decide +kernel)
theorem zq1044 : (Cond.codeWith ⟨"VillageWavesLaw", "source", "(LVillageWaves;II[J)I"⟩ method_14_code 5 (some .int) [(0, 10, 13, 28)] : Cond) ∈ zGW := zgw 1044 (by decide +kernel) (by decide +kernel)
theorem zq1045 : (Cond.methodLink "VillageWavesLaw" 54 ⟨"VillageWaves", "source", "(II)I"⟩ : Cond) ∈ zGW := zgw 1045 (by decide +kernel) (by decide +kernel)
theorem zq1046 : (Cond.instanceMethod ⟨"VillageWaves", "source", "(II)I"⟩ : Cond) ∈ zGW := zgw 1046 (by decide +kernel) (by decide +kernel)
theorem zq1047 : (Cond.selects "VillageWaves" ⟨"VillageWaves", "source", "(II)I"⟩ ⟨"VillageWaves", "source", "(II)I"⟩ : Cond) ∈ zGW := zgw 1047 (by decide +kernel) (by decide +kernel)
theorem zq1048 : (Cond.code ⟨"VillageWaves", "source", "(II)I"⟩ prog_1_method_16_code 3 (some .int) : Cond) ∈ zGW := zgw 1048 (by decide +kernel) (by decide +kernel)
theorem zq1049 : (Cond.methodLink "VillageWavesLaw" 167 ⟨"VillageWavesLaw", "owes", "(LVillageWaves;II[J)I"⟩ : Cond) ∈ zGW := zgw 1049 (by decide +kernel) (by decide +kernel)
theorem zq1050 : (Cond.static ⟨"VillageWavesLaw", "owes", "(LVillageWaves;II[J)I"⟩ : Cond) ∈ zGW := zgw 1050 (by decide +kernel) (by decide +kernel)
theorem zq1051 : (Cond.codeWith ⟨"VillageWavesLaw", "owes", "(LVillageWaves;II[J)I"⟩ method_15_code 5 (some .int) [(0, 10, 13, 28)] : Cond) ∈ zGW := zgw 1051 (by decide +kernel) (by decide +kernel)
theorem zq1052 : (Cond.methodLink "VillageWavesLaw" 57 ⟨"VillageWaves", "owes", "(II)I"⟩ : Cond) ∈ zGW := zgw 1052 (by decide +kernel) (by decide +kernel)
theorem zq1053 : (Cond.instanceMethod ⟨"VillageWaves", "owes", "(II)I"⟩ : Cond) ∈ zGW := zgw 1053 (by decide +kernel) (by decide +kernel)
theorem zq1054 : (Cond.selects "VillageWaves" ⟨"VillageWaves", "owes", "(II)I"⟩ ⟨"VillageWaves", "owes", "(II)I"⟩ : Cond) ∈ zGW := zgw 1054 (by decide +kernel) (by decide +kernel)
theorem zq1055 : (Cond.code ⟨"VillageWaves", "owes", "(II)I"⟩ prog_1_method_17_code 3 (some .int) : Cond) ∈ zGW := zgw 1055 (by decide +kernel) (by decide +kernel)
theorem zq1057 : (Cond.methodLink "VillageWavesLaw" 170 ⟨"VillageWavesLaw", "spoken", "(LVillageWaves;II[J)I"⟩ : Cond) ∈ zGW := zgw 1057 (by decide +kernel) (by decide +kernel)
theorem zq1058 : (Cond.static ⟨"VillageWavesLaw", "spoken", "(LVillageWaves;II[J)I"⟩ : Cond) ∈ zGW := zgw 1058 (by decide +kernel) (by decide +kernel)
theorem zq1059 : (Cond.codeWith ⟨"VillageWavesLaw", "spoken", "(LVillageWaves;II[J)I"⟩ method_16_code 5 (some .int) [(0, 10, 13, 18)] : Cond) ∈ zGW := zgw 1059 (by decide +kernel) (by decide +kernel)
theorem zq1060 : (Cond.methodLink "VillageWavesLaw" 60 ⟨"VillageWaves", "spoken", "(II)I"⟩ : Cond) ∈ zGW := zgw 1060 (by decide +kernel) (by decide +kernel)
theorem zq1061 : (Cond.instanceMethod ⟨"VillageWaves", "spoken", "(II)I"⟩ : Cond) ∈ zGW := zgw 1061 (by decide +kernel) (by decide +kernel)
theorem zq1062 : (Cond.selects "VillageWaves" ⟨"VillageWaves", "spoken", "(II)I"⟩ ⟨"VillageWaves", "spoken", "(II)I"⟩ : Cond) ∈ zGW := zgw 1062 (by decide +kernel) (by decide +kernel)
theorem zq1063 : (Cond.code ⟨"VillageWaves", "spoken", "(II)I"⟩ prog_1_method_18_code 3 (some .int) : Cond) ∈ zGW := zgw 1063 (by decide +kernel) (by decide +kernel)
theorem zq1070 : (Cond.methodLink "VillageWavesLaw" 173 ⟨"VillageWavesLaw", "tell", "(LVillageWaves;II[J)I"⟩ : Cond) ∈ zGW := zgw 1070 (by decide +kernel) (by decide +kernel)
theorem zq1071 : (Cond.static ⟨"VillageWavesLaw", "tell", "(LVillageWaves;II[J)I"⟩ : Cond) ∈ zGW := zgw 1071 (by decide +kernel) (by decide +kernel)
theorem zq1072 : (Cond.codeWith ⟨"VillageWavesLaw", "tell", "(LVillageWaves;II[J)I"⟩ method_17_code 5 (some .int) [(0, 10, 13, 28), (0, 10, 17, 18)] : Cond) ∈ zGW := zgw 1072 (by decide +kernel) (by decide +kernel)
theorem zq1073 : (Cond.methodLink "VillageWavesLaw" 63 ⟨"VillageWaves", "tell", "(II)I"⟩ : Cond) ∈ zGW := zgw 1073 (by decide +kernel) (by decide +kernel)
theorem zq1074 : (Cond.instanceMethod ⟨"VillageWaves", "tell", "(II)I"⟩ : Cond) ∈ zGW := zgw 1074 (by decide +kernel) (by decide +kernel)
theorem zq1075 : (Cond.selects "VillageWaves" ⟨"VillageWaves", "tell", "(II)I"⟩ ⟨"VillageWaves", "tell", "(II)I"⟩ : Cond) ∈ zGW := zgw 1075 (by decide +kernel) (by decide +kernel)
theorem zq1076 : (Cond.code ⟨"VillageWaves", "tell", "(II)I"⟩ prog_1_method_19_code 3 (some .int) : Cond) ∈ zGW := zgw 1076 (by decide +kernel) (by decide +kernel)
theorem zq1079 : (Cond.methodLink "VillageWavesLaw" 176 ⟨"VillageWavesLaw", "correct", "(LVillageWaves;III[J)I"⟩ : Cond) ∈ zGW := zgw 1079 (by decide +kernel) (by decide +kernel)
theorem zq1080 : (Cond.static ⟨"VillageWavesLaw", "correct", "(LVillageWaves;III[J)I"⟩ : Cond) ∈ zGW := zgw 1080 (by decide +kernel) (by decide +kernel)
theorem zq1081 : (Cond.codeWith ⟨"VillageWavesLaw", "correct", "(LVillageWaves;III[J)I"⟩ method_18_code 6 (some .int) [(0, 12, 15, 28), (0, 12, 19, 18)] : Cond) ∈ zGW := zgw 1081 (by decide +kernel) (by decide +kernel)
theorem zq1082 : (Cond.methodLink "VillageWavesLaw" 66 ⟨"VillageWaves", "correct", "(III)I"⟩ : Cond) ∈ zGW := zgw 1082 (by decide +kernel) (by decide +kernel)
theorem zq1083 : (Cond.instanceMethod ⟨"VillageWaves", "correct", "(III)I"⟩ : Cond) ∈ zGW := zgw 1083 (by decide +kernel) (by decide +kernel)
theorem zq1084 : (Cond.selects "VillageWaves" ⟨"VillageWaves", "correct", "(III)I"⟩ ⟨"VillageWaves", "correct", "(III)I"⟩ : Cond) ∈ zGW := zgw 1084 (by decide +kernel) (by decide +kernel)
theorem zq1085 : (Cond.code ⟨"VillageWaves", "correct", "(III)I"⟩ prog_1_method_20_code 4 (some .int) : Cond) ∈ zGW := zgw 1085 (by decide +kernel) (by decide +kernel)
theorem zq1105 : (Cond.methodLink "VillageWavesLaw" 179 ⟨"VillageWavesLaw", "run", "(LVillageWaves;I[J)I"⟩ : Cond) ∈ zGW := zgw 1105 (by decide +kernel) (by decide +kernel)
theorem zq1106 : (Cond.static ⟨"VillageWavesLaw", "run", "(LVillageWaves;I[J)I"⟩ : Cond) ∈ zGW := zgw 1106 (by decide +kernel) (by decide +kernel)
theorem zq1107 : (Cond.codeWith ⟨"VillageWavesLaw", "run", "(LVillageWaves;I[J)I"⟩ method_19_code 4 (some .int) [(0, 9, 12, 18)] : Cond) ∈ zGW := zgw 1107 (by decide +kernel) (by decide +kernel)
theorem zq1108 : (Cond.methodLink "VillageWavesLaw" 69 ⟨"VillageWaves", "run", "(I)I"⟩ : Cond) ∈ zGW := zgw 1108 (by decide +kernel) (by decide +kernel)
theorem zq1109 : (Cond.instanceMethod ⟨"VillageWaves", "run", "(I)I"⟩ : Cond) ∈ zGW := zgw 1109 (by decide +kernel) (by decide +kernel)
theorem zq1110 : (Cond.selects "VillageWaves" ⟨"VillageWaves", "run", "(I)I"⟩ ⟨"VillageWaves", "run", "(I)I"⟩ : Cond) ∈ zGW := zgw 1110 (by decide +kernel) (by decide +kernel)
theorem zq1111 : (Cond.code ⟨"VillageWaves", "run", "(I)I"⟩ prog_1_method_21_code 3 (some .int) : Cond) ∈ zGW := zgw 1111 (by decide +kernel) (by decide +kernel)
theorem zq1159 : (Cond.methodLink "VillageWavesLaw" 190 ⟨"VillageWavesLaw", "chance", "(LVillageWaves;I[D)I"⟩ : Cond) ∈ zGW := zgw 1159 (by decide +kernel) (by decide +kernel)
theorem zq1160 : (Cond.static ⟨"VillageWavesLaw", "chance", "(LVillageWaves;I[D)I"⟩ : Cond) ∈ zGW := zgw 1160 (by decide +kernel) (by decide +kernel)
theorem zq1161 : (Cond.codeWith ⟨"VillageWavesLaw", "chance", "(LVillageWaves;I[D)I"⟩ method_20_code 4 (some .int) [(0, 8, 11, 28)] : Cond) ∈ zGW := zgw 1161 (by decide +kernel) (by decide +kernel)
theorem zq1162 : (Cond.methodLink "VillageWavesLaw" 72 ⟨"VillageWaves", "chance", "(I)D"⟩ : Cond) ∈ zGW := zgw 1162 (by decide +kernel) (by decide +kernel)
theorem zq1163 : (Cond.instanceMethod ⟨"VillageWaves", "chance", "(I)D"⟩ : Cond) ∈ zGW := zgw 1163 (by decide +kernel) (by decide +kernel)
theorem zq1164 : (Cond.selects "VillageWaves" ⟨"VillageWaves", "chance", "(I)D"⟩ ⟨"VillageWaves", "chance", "(I)D"⟩ : Cond) ∈ zGW := zgw 1164 (by decide +kernel) (by decide +kernel)
theorem zq1165 : (Cond.code ⟨"VillageWaves", "chance", "(I)D"⟩ prog_1_method_24_code 4 (some .double) : Cond) ∈ zGW := zgw 1165 (by decide +kernel) (by decide +kernel)
theorem zq1167 : (Cond.methodLink "VillageWavesLaw" 194 ⟨"VillageWavesLaw", "near", "(LVillageWaves;II[J)I"⟩ : Cond) ∈ zGW := zgw 1167 (by decide +kernel) (by decide +kernel)
theorem zq1168 : (Cond.static ⟨"VillageWavesLaw", "near", "(LVillageWaves;II[J)I"⟩ : Cond) ∈ zGW := zgw 1168 (by decide +kernel) (by decide +kernel)
theorem zq1169 : (Cond.codeWith ⟨"VillageWavesLaw", "near", "(LVillageWaves;II[J)I"⟩ method_21_code 5 (some .int) [(0, 10, 13, 28)] : Cond) ∈ zGW := zgw 1169 (by decide +kernel) (by decide +kernel)
theorem zq1170 : (Cond.methodLink "VillageWavesLaw" 76 ⟨"VillageWaves", "near", "(II)I"⟩ : Cond) ∈ zGW := zgw 1170 (by decide +kernel) (by decide +kernel)
theorem zq1171 : (Cond.instanceMethod ⟨"VillageWaves", "near", "(II)I"⟩ : Cond) ∈ zGW := zgw 1171 (by decide +kernel) (by decide +kernel)
theorem zq1172 : (Cond.selects "VillageWaves" ⟨"VillageWaves", "near", "(II)I"⟩ ⟨"VillageWaves", "near", "(II)I"⟩ : Cond) ∈ zGW := zgw 1172 (by decide +kernel) (by decide +kernel)
theorem zq1173 : (Cond.code ⟨"VillageWaves", "near", "(II)I"⟩ prog_1_method_25_code 3 (some .int) : Cond) ∈ zGW := zgw 1173 (by decide +kernel) (by decide +kernel)
theorem zq1182 : (Cond.methodLink "VillageWavesLaw" 197 ⟨"VillageWavesLaw", "hops", "(LVillageWaves;II[J)I"⟩ : Cond) ∈ zGW := zgw 1182 (by decide +kernel) (by decide +kernel)
theorem zq1183 : (Cond.static ⟨"VillageWavesLaw", "hops", "(LVillageWaves;II[J)I"⟩ : Cond) ∈ zGW := zgw 1183 (by decide +kernel) (by decide +kernel)
theorem zq1184 : (Cond.codeWith ⟨"VillageWavesLaw", "hops", "(LVillageWaves;II[J)I"⟩ method_22_code 5 (some .int) [(0, 10, 13, 28)] : Cond) ∈ zGW := zgw 1184 (by decide +kernel) (by decide +kernel)
theorem zq1185 : (Cond.methodLink "VillageWavesLaw" 79 ⟨"VillageWaves", "hops", "(II)I"⟩ : Cond) ∈ zGW := zgw 1185 (by decide +kernel) (by decide +kernel)
theorem zq1186 : (Cond.instanceMethod ⟨"VillageWaves", "hops", "(II)I"⟩ : Cond) ∈ zGW := zgw 1186 (by decide +kernel) (by decide +kernel)
theorem zq1187 : (Cond.selects "VillageWaves" ⟨"VillageWaves", "hops", "(II)I"⟩ ⟨"VillageWaves", "hops", "(II)I"⟩ : Cond) ∈ zGW := zgw 1187 (by decide +kernel) (by decide +kernel)
theorem zq1188 : (Cond.code ⟨"VillageWaves", "hops", "(II)I"⟩ prog_1_method_26_code 3 (some .int) : Cond) ∈ zGW := zgw 1188 (by decide +kernel) (by decide +kernel)
theorem zq1197 : (Cond.methodLink "VillageWavesLaw" 200 ⟨"VillageWavesLaw", "overlap", "(LVillageWaves;II[J)I"⟩ : Cond) ∈ zGW := zgw 1197 (by decide +kernel) (by decide +kernel)
theorem zq1198 : (Cond.static ⟨"VillageWavesLaw", "overlap", "(LVillageWaves;II[J)I"⟩ : Cond) ∈ zGW := zgw 1198 (by decide +kernel) (by decide +kernel)
theorem zq1199 : (Cond.codeWith ⟨"VillageWavesLaw", "overlap", "(LVillageWaves;II[J)I"⟩ method_23_code 5 (some .int) [(0, 10, 13, 28)] : Cond) ∈ zGW := zgw 1199 (by decide +kernel) (by decide +kernel)
theorem zq1200 : (Cond.methodLink "VillageWavesLaw" 82 ⟨"VillageWaves", "overlap", "(II)I"⟩ : Cond) ∈ zGW := zgw 1200 (by decide +kernel) (by decide +kernel)
theorem zq1201 : (Cond.instanceMethod ⟨"VillageWaves", "overlap", "(II)I"⟩ : Cond) ∈ zGW := zgw 1201 (by decide +kernel) (by decide +kernel)
theorem zq1202 : (Cond.selects "VillageWaves" ⟨"VillageWaves", "overlap", "(II)I"⟩ ⟨"VillageWaves", "overlap", "(II)I"⟩ : Cond) ∈ zGW := zgw 1202 (by decide +kernel) (by decide +kernel)
theorem zq1203 : (Cond.code ⟨"VillageWaves", "overlap", "(II)I"⟩ prog_1_method_27_code 5 (some .int) : Cond) ∈ zGW := zgw 1203 (by decide +kernel) (by decide +kernel)
theorem zq1204 : (Cond.methodLink "VillageWavesLaw" 208 ⟨"VillageWavesLaw", "reached", "(LVillageWaves;III[J)I"⟩ : Cond) ∈ zGW := zgw 1204 (by decide +kernel) (by decide +kernel)
theorem zq1205 : (Cond.static ⟨"VillageWavesLaw", "reached", "(LVillageWaves;III[J)I"⟩ : Cond) ∈ zGW := zgw 1205 (by decide +kernel) (by decide +kernel)
theorem zq1206 : (Cond.codeWith ⟨"VillageWavesLaw", "reached", "(LVillageWaves;III[J)I"⟩ method_24_code 6 (some .int) [(0, 12, 15, 28), (0, 12, 19, 18)] : Cond) ∈ zGW := zgw 1206 (by decide +kernel) (by decide +kernel)
theorem zq1207 : (Cond.methodLink "VillageWavesLaw" 85 ⟨"VillageWaves", "reached", "(III)I"⟩ : Cond) ∈ zGW := zgw 1207 (by decide +kernel) (by decide +kernel)
theorem zq1208 : (Cond.instanceMethod ⟨"VillageWaves", "reached", "(III)I"⟩ : Cond) ∈ zGW := zgw 1208 (by decide +kernel) (by decide +kernel)
theorem zq1209 : (Cond.selects "VillageWaves" ⟨"VillageWaves", "reached", "(III)I"⟩ ⟨"VillageWaves", "reached", "(III)I"⟩ : Cond) ∈ zGW := zgw 1209 (by decide +kernel) (by decide +kernel)
theorem zq1210 : (Cond.code ⟨"VillageWaves", "reached", "(III)I"⟩ prog_1_method_29_code 4 (some .int) : Cond) ∈ zGW := zgw 1210 (by decide +kernel) (by decide +kernel)
theorem zq1211 : (Cond.methodLink "VillageWavesLaw" 211 ⟨"VillageWavesLaw", "correctedIn", "(LVillageWaves;II[J)I"⟩ : Cond) ∈ zGW := zgw 1211 (by decide +kernel) (by decide +kernel)
theorem zq1212 : (Cond.static ⟨"VillageWavesLaw", "correctedIn", "(LVillageWaves;II[J)I"⟩ : Cond) ∈ zGW := zgw 1212 (by decide +kernel) (by decide +kernel)
theorem zq1213 : (Cond.codeWith ⟨"VillageWavesLaw", "correctedIn", "(LVillageWaves;II[J)I"⟩ method_25_code 5 (some .int) [(0, 10, 13, 28), (0, 10, 17, 18)] : Cond) ∈ zGW := zgw 1213 (by decide +kernel) (by decide +kernel)
theorem zq1214 : (Cond.methodLink "VillageWavesLaw" 88 ⟨"VillageWaves", "correctedIn", "(II)I"⟩ : Cond) ∈ zGW := zgw 1214 (by decide +kernel) (by decide +kernel)
theorem zq1215 : (Cond.instanceMethod ⟨"VillageWaves", "correctedIn", "(II)I"⟩ : Cond) ∈ zGW := zgw 1215 (by decide +kernel) (by decide +kernel)
theorem zq1216 : (Cond.selects "VillageWaves" ⟨"VillageWaves", "correctedIn", "(II)I"⟩ ⟨"VillageWaves", "correctedIn", "(II)I"⟩ : Cond) ∈ zGW := zgw 1216 (by decide +kernel) (by decide +kernel)
theorem zq1217 : (Cond.code ⟨"VillageWaves", "correctedIn", "(II)I"⟩ prog_1_method_30_code 4 (some .int) : Cond) ∈ zGW := zgw 1217 (by decide +kernel) (by decide +kernel)
theorem zq1219 : (Cond.methodLink "VillageWavesLaw" 214 ⟨"VillageWavesLaw", "ahead", "(LVillageWaves;II[J)I"⟩ : Cond) ∈ zGW := zgw 1219 (by decide +kernel) (by decide +kernel)
theorem zq1220 : (Cond.static ⟨"VillageWavesLaw", "ahead", "(LVillageWaves;II[J)I"⟩ : Cond) ∈ zGW := zgw 1220 (by decide +kernel) (by decide +kernel)
theorem zq1221 : (Cond.codeWith ⟨"VillageWavesLaw", "ahead", "(LVillageWaves;II[J)I"⟩ method_26_code 5 (some .int) [(0, 10, 13, 18)] : Cond) ∈ zGW := zgw 1221 (by decide +kernel) (by decide +kernel)
theorem zq1222 : (Cond.methodLink "VillageWavesLaw" 91 ⟨"VillageWaves", "ahead", "(II)I"⟩ : Cond) ∈ zGW := zgw 1222 (by decide +kernel) (by decide +kernel)
theorem zq1223 : (Cond.instanceMethod ⟨"VillageWaves", "ahead", "(II)I"⟩ : Cond) ∈ zGW := zgw 1223 (by decide +kernel) (by decide +kernel)
theorem zq1224 : (Cond.selects "VillageWaves" ⟨"VillageWaves", "ahead", "(II)I"⟩ ⟨"VillageWaves", "ahead", "(II)I"⟩ : Cond) ∈ zGW := zgw 1224 (by decide +kernel) (by decide +kernel)
theorem zq1225 : (Cond.code ⟨"VillageWaves", "ahead", "(II)I"⟩ prog_1_method_31_code 3 (some .int) : Cond) ∈ zGW := zgw 1225 (by decide +kernel) (by decide +kernel)
theorem zq1230 : (Cond.methodLink "VillageWavesLaw" 217 ⟨"VillageWavesLaw", "bestAuthor", "(LVillageWaves;I[J)I"⟩ : Cond) ∈ zGW := zgw 1230 (by decide +kernel) (by decide +kernel)
theorem zq1231 : (Cond.static ⟨"VillageWavesLaw", "bestAuthor", "(LVillageWaves;I[J)I"⟩ : Cond) ∈ zGW := zgw 1231 (by decide +kernel) (by decide +kernel)
theorem zq1232 : (Cond.codeWith ⟨"VillageWavesLaw", "bestAuthor", "(LVillageWaves;I[J)I"⟩ method_27_code 4 (some .int) [(0, 9, 12, 18)] : Cond) ∈ zGW := zgw 1232 (by decide +kernel) (by decide +kernel)
theorem zq1233 : (Cond.methodLink "VillageWavesLaw" 94 ⟨"VillageWaves", "bestAuthor", "(I)I"⟩ : Cond) ∈ zGW := zgw 1233 (by decide +kernel) (by decide +kernel)
theorem zq1234 : (Cond.instanceMethod ⟨"VillageWaves", "bestAuthor", "(I)I"⟩ : Cond) ∈ zGW := zgw 1234 (by decide +kernel) (by decide +kernel)
theorem zq1235 : (Cond.selects "VillageWaves" ⟨"VillageWaves", "bestAuthor", "(I)I"⟩ ⟨"VillageWaves", "bestAuthor", "(I)I"⟩ : Cond) ∈ zGW := zgw 1235 (by decide +kernel) (by decide +kernel)
theorem zq1236 : (Cond.code ⟨"VillageWaves", "bestAuthor", "(I)I"⟩ prog_1_method_32_code 7 (some .int) : Cond) ∈ zGW := zgw 1236 (by decide +kernel) (by decide +kernel)
theorem zq1237 : (Cond.methodLink "VillageWavesLaw" 220 ⟨"VillageWavesLaw", "save", "(LVillageWaves;I)I"⟩ : Cond) ∈ zGW := zgw 1237 (by decide +kernel) (by decide +kernel)
theorem zq1238 : (Cond.static ⟨"VillageWavesLaw", "save", "(LVillageWaves;I)I"⟩ : Cond) ∈ zGW := zgw 1238 (by decide +kernel) (by decide +kernel)
theorem zq1239 : (Cond.codeWith ⟨"VillageWavesLaw", "save", "(LVillageWaves;I)I"⟩ method_28_code 3 (some .int) [(0, 5, 8, 18)] : Cond) ∈ zGW := zgw 1239 (by decide +kernel) (by decide +kernel)
theorem zq1240 : (Cond.methodLink "VillageWavesLaw" 97 ⟨"VillageWaves", "save", "(I)V"⟩ : Cond) ∈ zGW := zgw 1240 (by decide +kernel) (by decide +kernel)
theorem zq1241 : (Cond.instanceMethod ⟨"VillageWaves", "save", "(I)V"⟩ : Cond) ∈ zGW := zgw 1241 (by decide +kernel) (by decide +kernel)
theorem zq1242 : (Cond.selects "VillageWaves" ⟨"VillageWaves", "save", "(I)V"⟩ ⟨"VillageWaves", "save", "(I)V"⟩ : Cond) ∈ zGW := zgw 1242 (by decide +kernel) (by decide +kernel)
theorem zq1243 : (Cond.code ⟨"VillageWaves", "save", "(I)V"⟩ prog_1_method_33_code 2 none : Cond) ∈ zGW := zgw 1243 (by decide +kernel) (by decide +kernel)
theorem zq1249 : (Cond.methodLink "VillageWavesLaw" 223 ⟨"VillageWavesLaw", "restore", "(LVillageWaves;I)I"⟩ : Cond) ∈ zGW := zgw 1249 (by decide +kernel) (by decide +kernel)
theorem zq1250 : (Cond.static ⟨"VillageWavesLaw", "restore", "(LVillageWaves;I)I"⟩ : Cond) ∈ zGW := zgw 1250 (by decide +kernel) (by decide +kernel)
theorem zq1251 : (Cond.codeWith ⟨"VillageWavesLaw", "restore", "(LVillageWaves;I)I"⟩ method_29_code 3 (some .int) [(0, 5, 8, 18), (0, 5, 11, 13)] : Cond) ∈ zGW := zgw 1251 (by decide +kernel) (by decide +kernel)
theorem zq1252 : (Cond.methodLink "VillageWavesLaw" 100 ⟨"VillageWaves", "restore", "(I)V"⟩ : Cond) ∈ zGW := zgw 1252 (by decide +kernel) (by decide +kernel)
theorem zq1253 : (Cond.instanceMethod ⟨"VillageWaves", "restore", "(I)V"⟩ : Cond) ∈ zGW := zgw 1253 (by decide +kernel) (by decide +kernel)
theorem zq1254 : (Cond.selects "VillageWaves" ⟨"VillageWaves", "restore", "(I)V"⟩ ⟨"VillageWaves", "restore", "(I)V"⟩ : Cond) ∈ zGW := zgw 1254 (by decide +kernel) (by decide +kernel)
theorem zq1255 : (Cond.code ⟨"VillageWaves", "restore", "(I)V"⟩ prog_1_method_34_code 2 none : Cond) ∈ zGW := zgw 1255 (by decide +kernel) (by decide +kernel)
theorem zq1341 : (Cond.methodLink "VillageWavesLaw" 113 ⟨"VillageWavesModel", "thrown", "()I"⟩ : Cond) ∈ zGW := zgw 1341 (by decide +kernel) (by decide +kernel)
theorem zq1342 : (Cond.instanceMethod ⟨"VillageWavesModel", "thrown", "()I"⟩ : Cond) ∈ zGW := zgw 1342 (by decide +kernel) (by decide +kernel)
theorem zq1343 : (Cond.selects "VillageWavesModel" ⟨"VillageWavesModel", "thrown", "()I"⟩ ⟨"VillageWavesModel", "thrown", "()I"⟩ : Cond) ∈ zGW := zgw 1343 (by decide +kernel) (by decide +kernel)
theorem zq1344 : (Cond.code ⟨"VillageWavesModel", "thrown", "()I"⟩ prog_11_method_2_code 1 (some .int) : Cond) ∈ zGW := zgw 1344 (by decide +kernel) (by decide +kernel)
theorem zq1345 : (Cond.methodLink "VillageWavesLaw" 112 ⟨"VillageWavesModel", "appendText", "(I)I"⟩ : Cond) ∈ zGW := zgw 1345 (by decide +kernel) (by decide +kernel)
theorem zq1346 : (Cond.instanceMethod ⟨"VillageWavesModel", "appendText", "(I)I"⟩ : Cond) ∈ zGW := zgw 1346 (by decide +kernel) (by decide +kernel)
theorem zq1347 : (Cond.selects "VillageWavesModel" ⟨"VillageWavesModel", "appendText", "(I)I"⟩ ⟨"VillageWavesModel", "appendText", "(I)I"⟩ : Cond) ∈ zGW := zgw 1347 (by decide +kernel) (by decide +kernel)
theorem zq1348 : (Cond.code ⟨"VillageWavesModel", "appendText", "(I)I"⟩ prog_11_method_16_code 3 (some .int) : Cond) ∈ zGW := zgw 1348 (by decide +kernel) (by decide +kernel)
theorem zq1353 : (Cond.methodLink "VillageWavesLaw" 119 ⟨"VillageWavesModel", "truncateText", "(I)I"⟩ : Cond) ∈ zGW := zgw 1353 (by decide +kernel) (by decide +kernel)
theorem zq1354 : (Cond.instanceMethod ⟨"VillageWavesModel", "truncateText", "(I)I"⟩ : Cond) ∈ zGW := zgw 1354 (by decide +kernel) (by decide +kernel)
theorem zq1355 : (Cond.selects "VillageWavesModel" ⟨"VillageWavesModel", "truncateText", "(I)I"⟩ ⟨"VillageWavesModel", "truncateText", "(I)I"⟩ : Cond) ∈ zGW := zgw 1355 (by decide +kernel) (by decide +kernel)
theorem zq1356 : (Cond.code ⟨"VillageWavesModel", "truncateText", "(I)I"⟩ prog_11_method_17_code 2 (some .int) : Cond) ∈ zGW := zgw 1356 (by decide +kernel) (by decide +kernel)
theorem zq1360 : (Cond.methodLink "VillageWavesLaw" 123 ⟨"VillageWavesModel", "load", "()I"⟩ : Cond) ∈ zGW := zgw 1360 (by decide +kernel) (by decide +kernel)
theorem zq1361 : (Cond.instanceMethod ⟨"VillageWavesModel", "load", "()I"⟩ : Cond) ∈ zGW := zgw 1361 (by decide +kernel) (by decide +kernel)
theorem zq1362 : (Cond.selects "VillageWavesModel" ⟨"VillageWavesModel", "load", "()I"⟩ ⟨"VillageWavesModel", "load", "()I"⟩ : Cond) ∈ zGW := zgw 1362 (by decide +kernel) (by decide +kernel)
theorem zq1363 : (Cond.code ⟨"VillageWavesModel", "load", "()I"⟩ prog_11_method_33_code 1 (some .int) : Cond) ∈ zGW := zgw 1363 (by decide +kernel) (by decide +kernel)
theorem zq1468 : (Cond.methodLink "VillageWavesLaw" 127 ⟨"VillageWavesModel", "errorCode", "()I"⟩ : Cond) ∈ zGW := zgw 1468 (by decide +kernel) (by decide +kernel)
theorem zq1469 : (Cond.instanceMethod ⟨"VillageWavesModel", "errorCode", "()I"⟩ : Cond) ∈ zGW := zgw 1469 (by decide +kernel) (by decide +kernel)
theorem zq1470 : (Cond.selects "VillageWavesModel" ⟨"VillageWavesModel", "errorCode", "()I"⟩ ⟨"VillageWavesModel", "errorCode", "()I"⟩ : Cond) ∈ zGW := zgw 1470 (by decide +kernel) (by decide +kernel)
theorem zq1471 : (Cond.code ⟨"VillageWavesModel", "errorCode", "()I"⟩ prog_11_method_34_code 1 (some .int) : Cond) ∈ zGW := zgw 1471 (by decide +kernel) (by decide +kernel)
theorem zq1472 : (Cond.methodLink "VillageWavesLaw" 131 ⟨"VillageWavesModel", "errorPosition", "()I"⟩ : Cond) ∈ zGW := zgw 1472 (by decide +kernel) (by decide +kernel)
theorem zq1473 : (Cond.instanceMethod ⟨"VillageWavesModel", "errorPosition", "()I"⟩ : Cond) ∈ zGW := zgw 1473 (by decide +kernel) (by decide +kernel)
theorem zq1474 : (Cond.selects "VillageWavesModel" ⟨"VillageWavesModel", "errorPosition", "()I"⟩ ⟨"VillageWavesModel", "errorPosition", "()I"⟩ : Cond) ∈ zGW := zgw 1474 (by decide +kernel) (by decide +kernel)
theorem zq1475 : (Cond.code ⟨"VillageWavesModel", "errorPosition", "()I"⟩ prog_11_method_35_code 1 (some .int) : Cond) ∈ zGW := zgw 1475 (by decide +kernel) (by decide +kernel)
theorem zq1476 : (Cond.methodLink "VillageWavesLaw" 135 ⟨"VillageWavesModel", "addHouse", "(IIIII)I"⟩ : Cond) ∈ zGW := zgw 1476 (by decide +kernel) (by decide +kernel)
theorem zq1477 : (Cond.instanceMethod ⟨"VillageWavesModel", "addHouse", "(IIIII)I"⟩ : Cond) ∈ zGW := zgw 1477 (by decide +kernel) (by decide +kernel)
theorem zq1478 : (Cond.selects "VillageWavesModel" ⟨"VillageWavesModel", "addHouse", "(IIIII)I"⟩ ⟨"VillageWavesModel", "addHouse", "(IIIII)I"⟩ : Cond) ∈ zGW := zgw 1478 (by decide +kernel) (by decide +kernel)
theorem zq1479 : (Cond.code ⟨"VillageWavesModel", "addHouse", "(IIIII)I"⟩ prog_11_method_38_code 6 (some .int) : Cond) ∈ zGW := zgw 1479 (by decide +kernel) (by decide +kernel)
theorem zq1480 : (Cond.methodLink "VillageWavesLaw" 139 ⟨"VillageWavesModel", "setQuiet", "(III)V"⟩ : Cond) ∈ zGW := zgw 1480 (by decide +kernel) (by decide +kernel)
theorem zq1481 : (Cond.instanceMethod ⟨"VillageWavesModel", "setQuiet", "(III)V"⟩ : Cond) ∈ zGW := zgw 1481 (by decide +kernel) (by decide +kernel)
theorem zq1482 : (Cond.selects "VillageWavesModel" ⟨"VillageWavesModel", "setQuiet", "(III)V"⟩ ⟨"VillageWavesModel", "setQuiet", "(III)V"⟩ : Cond) ∈ zGW := zgw 1482 (by decide +kernel) (by decide +kernel)
theorem zq1483 : (Cond.code ⟨"VillageWavesModel", "setQuiet", "(III)V"⟩ prog_11_method_39_code 5 none : Cond) ∈ zGW := zgw 1483 (by decide +kernel) (by decide +kernel)
theorem zq1488 : (Cond.methodLink "VillageWavesLaw" 143 ⟨"VillageWavesModel", "charge", "(II)I"⟩ : Cond) ∈ zGW := zgw 1488 (by decide +kernel) (by decide +kernel)
theorem zq1489 : (Cond.instanceMethod ⟨"VillageWavesModel", "charge", "(II)I"⟩ : Cond) ∈ zGW := zgw 1489 (by decide +kernel) (by decide +kernel)
theorem zq1490 : (Cond.selects "VillageWavesModel" ⟨"VillageWavesModel", "charge", "(II)I"⟩ ⟨"VillageWavesModel", "charge", "(II)I"⟩ : Cond) ∈ zGW := zgw 1490 (by decide +kernel) (by decide +kernel)
theorem zq1491 : (Cond.code ⟨"VillageWavesModel", "charge", "(II)I"⟩ prog_11_method_40_code 3 (some .int) : Cond) ∈ zGW := zgw 1491 (by decide +kernel) (by decide +kernel)
theorem zq1498 : (Cond.methodLink "VillageWavesLaw" 146 ⟨"VillageWavesModel", "set", "(II)I"⟩ : Cond) ∈ zGW := zgw 1498 (by decide +kernel) (by decide +kernel)
theorem zq1499 : (Cond.instanceMethod ⟨"VillageWavesModel", "set", "(II)I"⟩ : Cond) ∈ zGW := zgw 1499 (by decide +kernel) (by decide +kernel)
theorem zq1500 : (Cond.selects "VillageWavesModel" ⟨"VillageWavesModel", "set", "(II)I"⟩ ⟨"VillageWavesModel", "set", "(II)I"⟩ : Cond) ∈ zGW := zgw 1500 (by decide +kernel) (by decide +kernel)
theorem zq1501 : (Cond.code ⟨"VillageWavesModel", "set", "(II)I"⟩ prog_11_method_41_code 4 (some .int) : Cond) ∈ zGW := zgw 1501 (by decide +kernel) (by decide +kernel)
theorem zq1502 : (Cond.methodLink "VillageWavesLaw" 150 ⟨"VillageWavesModel", "seed", "(I)V"⟩ : Cond) ∈ zGW := zgw 1502 (by decide +kernel) (by decide +kernel)
theorem zq1503 : (Cond.instanceMethod ⟨"VillageWavesModel", "seed", "(I)V"⟩ : Cond) ∈ zGW := zgw 1503 (by decide +kernel) (by decide +kernel)
theorem zq1504 : (Cond.selects "VillageWavesModel" ⟨"VillageWavesModel", "seed", "(I)V"⟩ ⟨"VillageWavesModel", "seed", "(I)V"⟩ : Cond) ∈ zGW := zgw 1504 (by decide +kernel) (by decide +kernel)
theorem zq1505 : (Cond.code ⟨"VillageWavesModel", "seed", "(I)V"⟩ prog_11_method_42_code 2 none : Cond) ∈ zGW := zgw 1505 (by decide +kernel) (by decide +kernel)
theorem zq1506 : (Cond.methodLink "VillageWavesLaw" 153 ⟨"VillageWavesModel", "count", "(I)I"⟩ : Cond) ∈ zGW := zgw 1506 (by decide +kernel) (by decide +kernel)
theorem zq1507 : (Cond.instanceMethod ⟨"VillageWavesModel", "count", "(I)I"⟩ : Cond) ∈ zGW := zgw 1507 (by decide +kernel) (by decide +kernel)
theorem zq1508 : (Cond.selects "VillageWavesModel" ⟨"VillageWavesModel", "count", "(I)I"⟩ ⟨"VillageWavesModel", "count", "(I)I"⟩ : Cond) ∈ zGW := zgw 1508 (by decide +kernel) (by decide +kernel)
theorem zq1509 : (Cond.code ⟨"VillageWavesModel", "count", "(I)I"⟩ prog_11_method_50_code 2 (some .int) : Cond) ∈ zGW := zgw 1509 (by decide +kernel) (by decide +kernel)
theorem zq1546 : (Cond.methodLink "VillageWavesLaw" 156 ⟨"VillageWavesModel", "house", "(II)I"⟩ : Cond) ∈ zGW := zgw 1546 (by decide +kernel) (by decide +kernel)
theorem zq1547 : (Cond.instanceMethod ⟨"VillageWavesModel", "house", "(II)I"⟩ : Cond) ∈ zGW := zgw 1547 (by decide +kernel) (by decide +kernel)
theorem zq1548 : (Cond.selects "VillageWavesModel" ⟨"VillageWavesModel", "house", "(II)I"⟩ ⟨"VillageWavesModel", "house", "(II)I"⟩ : Cond) ∈ zGW := zgw 1548 (by decide +kernel) (by decide +kernel)
theorem zq1549 : (Cond.code ⟨"VillageWavesModel", "house", "(II)I"⟩ prog_11_method_57_code 3 (some .int) : Cond) ∈ zGW := zgw 1549 (by decide +kernel) (by decide +kernel)
theorem zq1570 : (Cond.methodLink "VillageWavesLaw" 160 ⟨"VillageWavesModel", "entry", "(III)I"⟩ : Cond) ∈ zGW := zgw 1570 (by decide +kernel) (by decide +kernel)
theorem zq1571 : (Cond.instanceMethod ⟨"VillageWavesModel", "entry", "(III)I"⟩ : Cond) ∈ zGW := zgw 1571 (by decide +kernel) (by decide +kernel)
theorem zq1572 : (Cond.selects "VillageWavesModel" ⟨"VillageWavesModel", "entry", "(III)I"⟩ ⟨"VillageWavesModel", "entry", "(III)I"⟩ : Cond) ∈ zGW := zgw 1572 (by decide +kernel) (by decide +kernel)
theorem zq1573 : (Cond.code ⟨"VillageWavesModel", "entry", "(III)I"⟩ prog_11_method_67_code 5 (some .int) : Cond) ∈ zGW := zgw 1573 (by decide +kernel) (by decide +kernel)
theorem zq1606 : (Cond.methodLink "VillageWavesLaw" 163 ⟨"VillageWavesModel", "news", "(II)I"⟩ : Cond) ∈ zGW := zgw 1606 (by decide +kernel) (by decide +kernel)
theorem zq1607 : (Cond.instanceMethod ⟨"VillageWavesModel", "news", "(II)I"⟩ : Cond) ∈ zGW := zgw 1607 (by decide +kernel) (by decide +kernel)
theorem zq1608 : (Cond.selects "VillageWavesModel" ⟨"VillageWavesModel", "news", "(II)I"⟩ ⟨"VillageWavesModel", "news", "(II)I"⟩ : Cond) ∈ zGW := zgw 1608 (by decide +kernel) (by decide +kernel)
theorem zq1609 : (Cond.code ⟨"VillageWavesModel", "news", "(II)I"⟩ prog_11_method_69_code 3 (some .int) : Cond) ∈ zGW := zgw 1609 (by decide +kernel) (by decide +kernel)
theorem zq1622 : (Cond.methodLink "VillageWavesLaw" 166 ⟨"VillageWavesModel", "source", "(II)I"⟩ : Cond) ∈ zGW := zgw 1622 (by decide +kernel) (by decide +kernel)
theorem zq1623 : (Cond.instanceMethod ⟨"VillageWavesModel", "source", "(II)I"⟩ : Cond) ∈ zGW := zgw 1623 (by decide +kernel) (by decide +kernel)
theorem zq1624 : (Cond.selects "VillageWavesModel" ⟨"VillageWavesModel", "source", "(II)I"⟩ ⟨"VillageWavesModel", "source", "(II)I"⟩ : Cond) ∈ zGW := zgw 1624 (by decide +kernel) (by decide +kernel)
theorem zq1625 : (Cond.code ⟨"VillageWavesModel", "source", "(II)I"⟩ prog_11_method_70_code 3 (some .int) : Cond) ∈ zGW := zgw 1625 (by decide +kernel) (by decide +kernel)
theorem zq1626 : (Cond.methodLink "VillageWavesLaw" 169 ⟨"VillageWavesModel", "owes", "(II)I"⟩ : Cond) ∈ zGW := zgw 1626 (by decide +kernel) (by decide +kernel)
theorem zq1627 : (Cond.instanceMethod ⟨"VillageWavesModel", "owes", "(II)I"⟩ : Cond) ∈ zGW := zgw 1627 (by decide +kernel) (by decide +kernel)
theorem zq1628 : (Cond.selects "VillageWavesModel" ⟨"VillageWavesModel", "owes", "(II)I"⟩ ⟨"VillageWavesModel", "owes", "(II)I"⟩ : Cond) ∈ zGW := zgw 1628 (by decide +kernel) (by decide +kernel)
theorem zq1629 : (Cond.code ⟨"VillageWavesModel", "owes", "(II)I"⟩ prog_11_method_71_code 3 (some .int) : Cond) ∈ zGW := zgw 1629 (by decide +kernel) (by decide +kernel)
theorem zq1630 : (Cond.methodLink "VillageWavesLaw" 172 ⟨"VillageWavesModel", "spoken", "(II)I"⟩ : Cond) ∈ zGW := zgw 1630 (by decide +kernel) (by decide +kernel)
theorem zq1631 : (Cond.instanceMethod ⟨"VillageWavesModel", "spoken", "(II)I"⟩ : Cond) ∈ zGW := zgw 1631 (by decide +kernel) (by decide +kernel)
theorem zq1632 : (Cond.selects "VillageWavesModel" ⟨"VillageWavesModel", "spoken", "(II)I"⟩ ⟨"VillageWavesModel", "spoken", "(II)I"⟩ : Cond) ∈ zGW := zgw 1632 (by decide +kernel) (by decide +kernel)
theorem zq1633 : (Cond.code ⟨"VillageWavesModel", "spoken", "(II)I"⟩ prog_11_method_72_code 3 (some .int) : Cond) ∈ zGW := zgw 1633 (by decide +kernel) (by decide +kernel)
theorem zq1634 : (Cond.methodLink "VillageWavesLaw" 175 ⟨"VillageWavesModel", "tell", "(II)I"⟩ : Cond) ∈ zGW := zgw 1634 (by decide +kernel) (by decide +kernel)
theorem zq1635 : (Cond.instanceMethod ⟨"VillageWavesModel", "tell", "(II)I"⟩ : Cond) ∈ zGW := zgw 1635 (by decide +kernel) (by decide +kernel)
theorem zq1636 : (Cond.selects "VillageWavesModel" ⟨"VillageWavesModel", "tell", "(II)I"⟩ ⟨"VillageWavesModel", "tell", "(II)I"⟩ : Cond) ∈ zGW := zgw 1636 (by decide +kernel) (by decide +kernel)
theorem zq1637 : (Cond.code ⟨"VillageWavesModel", "tell", "(II)I"⟩ prog_11_method_75_code 3 (some .int) : Cond) ∈ zGW := zgw 1637 (by decide +kernel) (by decide +kernel)
theorem zq1638 : (Cond.methodLink "VillageWavesLaw" 178 ⟨"VillageWavesModel", "correct", "(III)I"⟩ : Cond) ∈ zGW := zgw 1638 (by decide +kernel) (by decide +kernel)
theorem zq1639 : (Cond.instanceMethod ⟨"VillageWavesModel", "correct", "(III)I"⟩ : Cond) ∈ zGW := zgw 1639 (by decide +kernel) (by decide +kernel)
theorem zq1640 : (Cond.selects "VillageWavesModel" ⟨"VillageWavesModel", "correct", "(III)I"⟩ ⟨"VillageWavesModel", "correct", "(III)I"⟩ : Cond) ∈ zGW := zgw 1640 (by decide +kernel) (by decide +kernel)
theorem zq1641 : (Cond.code ⟨"VillageWavesModel", "correct", "(III)I"⟩ prog_11_method_78_code 4 (some .int) : Cond) ∈ zGW := zgw 1641 (by decide +kernel) (by decide +kernel)
theorem zq1649 : (Cond.methodLink "VillageWavesLaw" 181 ⟨"VillageWavesModel", "run", "(I)I"⟩ : Cond) ∈ zGW := zgw 1649 (by decide +kernel) (by decide +kernel)
theorem zq1650 : (Cond.instanceMethod ⟨"VillageWavesModel", "run", "(I)I"⟩ : Cond) ∈ zGW := zgw 1650 (by decide +kernel) (by decide +kernel)
theorem zq1651 : (Cond.selects "VillageWavesModel" ⟨"VillageWavesModel", "run", "(I)I"⟩ ⟨"VillageWavesModel", "run", "(I)I"⟩ : Cond) ∈ zGW := zgw 1651 (by decide +kernel) (by decide +kernel)
theorem zq1652 : (Cond.code ⟨"VillageWavesModel", "run", "(I)I"⟩ prog_11_method_92_code 3 (some .int) : Cond) ∈ zGW := zgw 1652 (by decide +kernel) (by decide +kernel)
theorem zq1712 : (Cond.methodLink "VillageWavesLaw" 185 ⟨"VillageWavesModel", "wishes", "()I"⟩ : Cond) ∈ zGW := zgw 1712 (by decide +kernel) (by decide +kernel)
theorem zq1713 : (Cond.instanceMethod ⟨"VillageWavesModel", "wishes", "()I"⟩ : Cond) ∈ zGW := zgw 1713 (by decide +kernel) (by decide +kernel)
theorem zq1714 : (Cond.selects "VillageWavesModel" ⟨"VillageWavesModel", "wishes", "()I"⟩ ⟨"VillageWavesModel", "wishes", "()I"⟩ : Cond) ∈ zGW := zgw 1714 (by decide +kernel) (by decide +kernel)
theorem zq1715 : (Cond.code ⟨"VillageWavesModel", "wishes", "()I"⟩ prog_11_method_93_code 2 (some .int) : Cond) ∈ zGW := zgw 1715 (by decide +kernel) (by decide +kernel)
theorem zq1716 : (Cond.methodLink "VillageWavesLaw" 189 ⟨"VillageWavesModel", "next", "()I"⟩ : Cond) ∈ zGW := zgw 1716 (by decide +kernel) (by decide +kernel)
theorem zq1717 : (Cond.instanceMethod ⟨"VillageWavesModel", "next", "()I"⟩ : Cond) ∈ zGW := zgw 1717 (by decide +kernel) (by decide +kernel)
theorem zq1718 : (Cond.selects "VillageWavesModel" ⟨"VillageWavesModel", "next", "()I"⟩ ⟨"VillageWavesModel", "next", "()I"⟩ : Cond) ∈ zGW := zgw 1718 (by decide +kernel) (by decide +kernel)
theorem zq1719 : (Cond.code ⟨"VillageWavesModel", "next", "()I"⟩ prog_11_method_94_code 2 (some .int) : Cond) ∈ zGW := zgw 1719 (by decide +kernel) (by decide +kernel)
theorem zq1720 : (Cond.methodLink "VillageWavesLaw" 193 ⟨"VillageWavesModel", "chance", "(I)D"⟩ : Cond) ∈ zGW := zgw 1720 (by decide +kernel) (by decide +kernel)
theorem zq1721 : (Cond.instanceMethod ⟨"VillageWavesModel", "chance", "(I)D"⟩ : Cond) ∈ zGW := zgw 1721 (by decide +kernel) (by decide +kernel)
theorem zq1722 : (Cond.selects "VillageWavesModel" ⟨"VillageWavesModel", "chance", "(I)D"⟩ ⟨"VillageWavesModel", "chance", "(I)D"⟩ : Cond) ∈ zGW := zgw 1722 (by decide +kernel) (by decide +kernel)
theorem zq1723 : (Cond.code ⟨"VillageWavesModel", "chance", "(I)D"⟩ prog_11_method_95_code 3 (some .double) : Cond) ∈ zGW := zgw 1723 (by decide +kernel) (by decide +kernel)
theorem zq1724 : (Cond.methodLink "VillageWavesLaw" 196 ⟨"VillageWavesModel", "near", "(II)I"⟩ : Cond) ∈ zGW := zgw 1724 (by decide +kernel) (by decide +kernel)
theorem zq1725 : (Cond.instanceMethod ⟨"VillageWavesModel", "near", "(II)I"⟩ : Cond) ∈ zGW := zgw 1725 (by decide +kernel) (by decide +kernel)
theorem zq1726 : (Cond.selects "VillageWavesModel" ⟨"VillageWavesModel", "near", "(II)I"⟩ ⟨"VillageWavesModel", "near", "(II)I"⟩ : Cond) ∈ zGW := zgw 1726 (by decide +kernel) (by decide +kernel)
theorem zq1727 : (Cond.code ⟨"VillageWavesModel", "near", "(II)I"⟩ prog_11_method_97_code 4 (some .int) : Cond) ∈ zGW := zgw 1727 (by decide +kernel) (by decide +kernel)
theorem zq1732 : (Cond.methodLink "VillageWavesLaw" 199 ⟨"VillageWavesModel", "hops", "(II)I"⟩ : Cond) ∈ zGW := zgw 1732 (by decide +kernel) (by decide +kernel)
theorem zq1733 : (Cond.instanceMethod ⟨"VillageWavesModel", "hops", "(II)I"⟩ : Cond) ∈ zGW := zgw 1733 (by decide +kernel) (by decide +kernel)
theorem zq1734 : (Cond.selects "VillageWavesModel" ⟨"VillageWavesModel", "hops", "(II)I"⟩ ⟨"VillageWavesModel", "hops", "(II)I"⟩ : Cond) ∈ zGW := zgw 1734 (by decide +kernel) (by decide +kernel)
theorem zq1735 : (Cond.code ⟨"VillageWavesModel", "hops", "(II)I"⟩ prog_11_method_98_code 8 (some .int) : Cond) ∈ zGW := zgw 1735 (by decide +kernel) (by decide +kernel)
theorem zq1736 : (Cond.methodLink "VillageWavesLaw" 202 ⟨"VillageWavesModel", "overlap", "(II)I"⟩ : Cond) ∈ zGW := zgw 1736 (by decide +kernel) (by decide +kernel)
theorem zq1737 : (Cond.instanceMethod ⟨"VillageWavesModel", "overlap", "(II)I"⟩ : Cond) ∈ zGW := zgw 1737 (by decide +kernel) (by decide +kernel)
theorem zq1738 : (Cond.selects "VillageWavesModel" ⟨"VillageWavesModel", "overlap", "(II)I"⟩ ⟨"VillageWavesModel", "overlap", "(II)I"⟩ : Cond) ∈ zGW := zgw 1738 (by decide +kernel) (by decide +kernel)
theorem zq1739 : (Cond.code ⟨"VillageWavesModel", "overlap", "(II)I"⟩ prog_11_method_99_code 5 (some .int) : Cond) ∈ zGW := zgw 1739 (by decide +kernel) (by decide +kernel)
theorem zq1740 : (Cond.methodLink "VillageWavesLaw" 207 ⟨"VillageWavesModel", "meanBattery", "()F"⟩ : Cond) ∈ zGW := zgw 1740 (by decide +kernel) (by decide +kernel)
theorem zq1741 : (Cond.instanceMethod ⟨"VillageWavesModel", "meanBattery", "()F"⟩ : Cond) ∈ zGW := zgw 1741 (by decide +kernel) (by decide +kernel)
theorem zq1742 : (Cond.selects "VillageWavesModel" ⟨"VillageWavesModel", "meanBattery", "()F"⟩ ⟨"VillageWavesModel", "meanBattery", "()F"⟩ : Cond) ∈ zGW := zgw 1742 (by decide +kernel) (by decide +kernel)
theorem zq1743 : (Cond.code ⟨"VillageWavesModel", "meanBattery", "()F"⟩ prog_11_method_100_code 3 (some .float) : Cond) ∈ zGW := zgw 1743 (by decide +kernel) (by decide +kernel)
theorem zq1745 : (Cond.methodLink "VillageWavesLaw" 210 ⟨"VillageWavesModel", "reached", "(III)I"⟩ : Cond) ∈ zGW := zgw 1745 (by decide +kernel) (by decide +kernel)
theorem zq1746 : (Cond.instanceMethod ⟨"VillageWavesModel", "reached", "(III)I"⟩ : Cond) ∈ zGW := zgw 1746 (by decide +kernel) (by decide +kernel)
theorem zq1747 : (Cond.selects "VillageWavesModel" ⟨"VillageWavesModel", "reached", "(III)I"⟩ ⟨"VillageWavesModel", "reached", "(III)I"⟩ : Cond) ∈ zGW := zgw 1747 (by decide +kernel) (by decide +kernel)
theorem zq1748 : (Cond.code ⟨"VillageWavesModel", "reached", "(III)I"⟩ prog_11_method_101_code 5 (some .int) : Cond) ∈ zGW := zgw 1748 (by decide +kernel) (by decide +kernel)
theorem zq1749 : (Cond.methodLink "VillageWavesLaw" 213 ⟨"VillageWavesModel", "correctedIn", "(II)I"⟩ : Cond) ∈ zGW := zgw 1749 (by decide +kernel) (by decide +kernel)
theorem zq1750 : (Cond.instanceMethod ⟨"VillageWavesModel", "correctedIn", "(II)I"⟩ : Cond) ∈ zGW := zgw 1750 (by decide +kernel) (by decide +kernel)
theorem zq1751 : (Cond.selects "VillageWavesModel" ⟨"VillageWavesModel", "correctedIn", "(II)I"⟩ ⟨"VillageWavesModel", "correctedIn", "(II)I"⟩ : Cond) ∈ zGW := zgw 1751 (by decide +kernel) (by decide +kernel)
theorem zq1752 : (Cond.code ⟨"VillageWavesModel", "correctedIn", "(II)I"⟩ prog_11_method_102_code 5 (some .int) : Cond) ∈ zGW := zgw 1752 (by decide +kernel) (by decide +kernel)
theorem zq1753 : (Cond.methodLink "VillageWavesLaw" 216 ⟨"VillageWavesModel", "ahead", "(II)I"⟩ : Cond) ∈ zGW := zgw 1753 (by decide +kernel) (by decide +kernel)
theorem zq1754 : (Cond.instanceMethod ⟨"VillageWavesModel", "ahead", "(II)I"⟩ : Cond) ∈ zGW := zgw 1754 (by decide +kernel) (by decide +kernel)
theorem zq1755 : (Cond.selects "VillageWavesModel" ⟨"VillageWavesModel", "ahead", "(II)I"⟩ ⟨"VillageWavesModel", "ahead", "(II)I"⟩ : Cond) ∈ zGW := zgw 1755 (by decide +kernel) (by decide +kernel)
theorem zq1756 : (Cond.code ⟨"VillageWavesModel", "ahead", "(II)I"⟩ prog_11_method_103_code 4 (some .int) : Cond) ∈ zGW := zgw 1756 (by decide +kernel) (by decide +kernel)
theorem zq1757 : (Cond.methodLink "VillageWavesLaw" 219 ⟨"VillageWavesModel", "bestAuthor", "(I)I"⟩ : Cond) ∈ zGW := zgw 1757 (by decide +kernel) (by decide +kernel)
theorem zq1758 : (Cond.instanceMethod ⟨"VillageWavesModel", "bestAuthor", "(I)I"⟩ : Cond) ∈ zGW := zgw 1758 (by decide +kernel) (by decide +kernel)
theorem zq1759 : (Cond.selects "VillageWavesModel" ⟨"VillageWavesModel", "bestAuthor", "(I)I"⟩ ⟨"VillageWavesModel", "bestAuthor", "(I)I"⟩ : Cond) ∈ zGW := zgw 1759 (by decide +kernel) (by decide +kernel)
theorem zq1760 : (Cond.code ⟨"VillageWavesModel", "bestAuthor", "(I)I"⟩ prog_11_method_104_code 7 (some .int) : Cond) ∈ zGW := zgw 1760 (by decide +kernel) (by decide +kernel)
theorem zq1761 : (Cond.methodLink "VillageWavesLaw" 222 ⟨"VillageWavesModel", "save", "(I)V"⟩ : Cond) ∈ zGW := zgw 1761 (by decide +kernel) (by decide +kernel)
theorem zq1762 : (Cond.instanceMethod ⟨"VillageWavesModel", "save", "(I)V"⟩ : Cond) ∈ zGW := zgw 1762 (by decide +kernel) (by decide +kernel)
theorem zq1763 : (Cond.selects "VillageWavesModel" ⟨"VillageWavesModel", "save", "(I)V"⟩ ⟨"VillageWavesModel", "save", "(I)V"⟩ : Cond) ∈ zGW := zgw 1763 (by decide +kernel) (by decide +kernel)
theorem zq1764 : (Cond.code ⟨"VillageWavesModel", "save", "(I)V"⟩ prog_11_method_105_code 2 none : Cond) ∈ zGW := zgw 1764 (by decide +kernel) (by decide +kernel)
theorem zq1765 : (Cond.methodLink "VillageWavesLaw" 225 ⟨"VillageWavesModel", "restore", "(I)V"⟩ : Cond) ∈ zGW := zgw 1765 (by decide +kernel) (by decide +kernel)
theorem zq1766 : (Cond.instanceMethod ⟨"VillageWavesModel", "restore", "(I)V"⟩ : Cond) ∈ zGW := zgw 1766 (by decide +kernel) (by decide +kernel)
theorem zq1767 : (Cond.selects "VillageWavesModel" ⟨"VillageWavesModel", "restore", "(I)V"⟩ ⟨"VillageWavesModel", "restore", "(I)V"⟩ : Cond) ∈ zGW := zgw 1767 (by decide +kernel) (by decide +kernel)
theorem zq1768 : (Cond.code ⟨"VillageWavesModel", "restore", "(I)V"⟩ prog_11_method_106_code 2 none : Cond) ∈ zGW := zgw 1768 (by decide +kernel) (by decide +kernel)
/-- which of the three exceptions are not which -/
def zNc (U : State) : Prop := va_Nc "java/lang/IllegalStateException" "java/lang/IllegalArgumentException" U ∧ va_Nc "java/lang/IllegalArgumentException" "java/lang/IndexOutOfBoundsException" U
theorem zNc.moved {u U : State} (hvm : u.vm.Alike U.vm) (h : zNc u) : zNc U := ⟨va_Nc.moved hvm h.1, va_Nc.moved hvm h.2⟩
def zPreN (G : zLA) (as : List Value) (σ : zSt) (sz : Nat) : Array Value → State → Prop := fun a U => zPre G as σ sz a U ∧ zNc U
theorem zPreN.blind {G : zLA} {as : List Value} {σ : zSt} {sz : Nat} : FrameBlind (zPreN G as σ sz) := fun a U g mk h => ⟨zPre.blind a U g mk h.1, zNc.moved (u := U) (U := U.calling g mk a) (Vm.Alike.refl U.vm) h.2⟩
def zML (l : Launch) (G : zLA) (y : MethodName) (ws : List Cond) (rm : Room) (as : List Value) (σ : zSt) (ov : Option Value) (σ' : zSt) : Prop :=
  ∀ sz : Nat, Met l y ws rm (zPreN G as σ sz) (zR G sz ov σ') rm.cells rm.slots (zA G sz)
abbrev zwsW (y : MethodName) (b : ByteArray) (ml : Nat) (rt : Option FieldType) (hh : List (Nat × Nat × Nat × Nat)) : List Cond := Cond.codeWith y b ml rt hh :: zGW
def zLSH (own : String) (index : Nat) (y : MethodName) (b : ByteArray) (ml : Nat) (rt : Option FieldType) (hh : List (Nat × Nat × Nat × Nat)) (n : Nat) : Prop :=
  Cond.methodLink own index y ∈ zGW ∧ Cond.static y ∈ zGW ∧ Cond.initialized y.cls ∈ zGW ∧ Cond.codeWith y b ml rt hh ∈ zGW ∧ (y.cls ≠ "java/lang/invoke/MethodHandle" ∧ y.cls ≠ "java/lang/invoke/VarHandle" ∧ (parseMethodDescriptor y.desc).map (fun d => d.parameters.length) = some n)
section ZL
variable {G : zLA} {p : Program} {l : Launch} {e : Env} {R : Room} {s : State} {m : MethodId} {args : Array Value} {below : List Frame} {meth : Method} {c : Code} {cells slots : Nat} {Q : State → Prop} {own : String} {cc : ByteArray} {nL : Nat} {ret : Option FieldType} {pc : Nat} {lv : List (Nat × Value)} {st : List Value} {σ : zSt}
theorem z_ofML {y : MethodName} {b : ByteArray} {ml : Nat} {rt : Option FieldType} {hh : List (Nat × Nat × Nat × Nat)} {rm : Room} {as : List Value} {σ' : zSt} {ov : Option Value} (hy : plainName y.cls = true) (hcl : y.cls = own) (hlv : lv_args 0 as = lv) (hsz : (lg_sl as).length ≤ ml)
    (body : ∀ (p : Program) (e : Env) (s : State) (m : MethodId) (args : Array Value) (below : List Frame) (meth : Method) (c : Code), zCx G p s m args meth c own b ml rt → zNc s → c.exceptionTable.toList = tableOf hh → zWV G p l e rm s m args below meth c ml 0 0 (zQ G below args s rm ov σ') 0 lv [] σ) : zML l G y (zwsW y b ml rt hh) rm as σ ov σ' := by
  intro sz
  refine va_MetW (cc := b) (maxL := ml) (ret := rt) (hh := hh) hy rfl ?_
  intro p e s m args below meth c s₁ B hml hv
  obtain ⟨⟨rfl, hsz0, hP, hK, hD0, hN, hF, hLk⟩, hNc⟩ := hv
  subst hsz0
  have hts := atoms_spec (ws := zwsW y b ml rt hh) B.pre
  have hown : s.vm.findClass own = some m.cls := by rw [← hcl]; exact findClass_of_methodNamed B.named
  have htab := vx_table (x := y) (y := y) B (hts _ List.mem_cons_self)
  have hl := lv_entry as (n := ml) hsz
  rw [lg_entry_eq]
  subst hlv
  exact body p e s m _ below meth c ⟨B.exec, B.bytes, hml, B.returns, B.notSynchronized, hown, fun w hw => hts w (List.mem_cons_of_mem _ hw), hN, hK, hF, hLk⟩ hNc htab _ _ [] hl hP (zD_A hD0) va_S.rf
theorem z_catch (C : zCx G p s m args meth c own cc nL ret) {E name : String} (pre : List ExceptionTableEntry) (x : ExceptionTableEntry) (suf : List ExceptionTableEntry) (hsplit : c.exceptionTable.toList = pre ++ x :: suf) (hpass : ∀ z ∈ pre, covers z pc = false ∨ (z.catchType ≠ 0 ∧ ∃ nm : String, Cond.classLink own z.catchType nm ∈ zGW ∧ va_Nc E nm s)) (hx : covers x pc = true) (h0 : x.catchType ≠ 0) (hlink : Cond.classLink own x.catchType name ∈ zGW) (hcast : Cond.castable E name ∈ zNW)
    (kk : ∀ q : Nat, zWV G p l e R s m args below meth c nL cells slots Q x.handlerPc lv [.ref q] σ) : zWX G p l e R s m args below meth c nL cells slots Q pc lv st σ E := by
  intro ls H locs q ce hl hP hD hS hq hv hcl
  exact vx_catch C.o pre x suf hsplit (fun z hz => (hpass z hz).elim Or.inl (fun ⟨a, nm, b, d⟩ => Or.inr ⟨a, nm, C.t _ b, d⟩)) hx h0 (C.t _ hlink) (va_Nw.use rfl (C.w _ hcast)) hq hv hcl (kk q ls H locs hl hP hD hS)
theorem zct_sd {o : Nat} {x : UInt64} {g' o' : Nat} (h : o' ≠ o) : zct G (zsd σ o x) g' o' = zct G σ g' o' := by
  show zshp G g' o' (σ.1 g' o') (σ.2.1 o') (if o' = o then x else σ.2.2 o') = _
  rw [if_neg h]
theorem zupL (w x : Int64) : vp_updL (fun k => if k = 0 then w else 0) 0 x = (fun k => if k = 0 then x else 0) := by
  funext j
  by_cases h : j = 0 <;> simp [vp_updL, h]
theorem zupF (w x : UInt64) : vf_upd (fun k => if k = 0 then w else 0) 0 x = (fun k => if k = 0 then x else 0) := by
  funext j
  by_cases h : j = 0 <;> simp [vf_upd, h]
theorem z_last0 (C : zCx G p s m args meth c own cc nL ret) {x : Int64} (hlive : (4, 95) ∈ zL G) (d : decode cc pc = .ok (.lastore, 1)) (kk : zWV G p l e R s m args below meth c nL cells slots Q (pc + 1) lv st (zsl σ 95 x)) : zWV G p l e R s m args below meth c nL cells slots Q pc lv (.long x :: .int 0 :: .ref (zad G 4 95) :: st) σ := by
  intro ls H locs hl hP hD hS
  obtain ⟨q, hq⟩ := zin hlive
  have e := zwd_set (G := G) C.L (σ := σ) (σ' := zsl σ 95 x) (e := .inl (zaC G 2, 1, .inr (.inl (vp_updL (fun k => if k = 0 then σ.2.1 95 else 0) 0 x)))) hq (by rw [zupL]; rfl) (fun g' o' hm h => by
    by_cases ho : o' = 95
    · subst ho
      have h1 := C.L.2 (g', 95) hm (Or.inr (Or.inl rfl))
      have h1 : g' = 4 := h1
      subst h1; exact absurd rfl h
    · exact zct_sl ho)
  have z0 : (0 : Int32).toNatClampNeg = 0 := rfl
  exact va_last C.x C.b C.K hP hD hS q 2 (n := 1) (f := fun k => if k = 0 then σ.2.1 95 else 0) ((zwd_at G σ hq).trans rfl) rfl (vp_in_nI (n := 0) (by decide) (by decide)) d (fun H1 locs1 hP1 hD1 hS1 => kk ls H1 locs1 hl (e ▸ hP1) (e ▸ hD1) hS1)
theorem z_lald0 (C : zCx G p s m args meth c own cc nL ret) (hlive : (4, 95) ∈ zL G) (d : decode cc pc = .ok (.laload, 1)) (kk : zWV G p l e R s m args below meth c nL cells slots Q (pc + 1) lv (.long (σ.2.1 95) :: st) σ) : zWV G p l e R s m args below meth c nL cells slots Q pc lv (.int 0 :: .ref (zad G 4 95) :: st) σ := by
  intro ls H locs hl hP hD hS
  obtain ⟨q, hq⟩ := zin hlive
  exact va_lald C.x C.b C.K hP q 2 (n := 1) (f := fun k => if k = 0 then σ.2.1 95 else 0) ((zwd_at G σ hq).trans rfl) rfl (vp_in_nI (n := 0) (by decide) (by decide)) d (kk ls H locs hl hP hD hS)
theorem z_dast0 (C : zCx G p s m args meth c own cc nL ret) {x : UInt64} (hlive : (4, 96) ∈ zL G) (d : decode cc pc = .ok (.dastore, 1)) (kk : zWV G p l e R s m args below meth c nL cells slots Q (pc + 1) lv st (zsd σ 96 x)) : zWV G p l e R s m args below meth c nL cells slots Q pc lv (.double x :: .int 0 :: .ref (zad G 4 96) :: st) σ := by
  intro ls H locs hl hP hD hS
  obtain ⟨q, hq⟩ := zin hlive
  have e := zwd_set (G := G) C.L (σ := σ) (σ' := zsd σ 96 x) (e := .inl (zaC G 3, 1, .inr (.inr (.inr (.inl (vf_upd (fun k => if k = 0 then σ.2.2 96 else 0) 0 x)))))) hq (by
    show _ = zshp G 4 96 (σ.1 4 96) (σ.2.1 96) (if 96 = 96 then x else σ.2.2 96)
    rw [if_pos rfl]
    show _ = (.inl (zaC G 3, 1, .inr (.inr (.inr (.inl (fun k => if k = 0 then x else 0))))) : va_E)
    rw [zupF]) (fun g' o' hm h => by
    by_cases ho : o' = 96
    · subst ho
      have h1 := C.L.2 (g', 96) hm (Or.inr (Or.inr rfl))
      have h1 : g' = 4 := h1
      subst h1; exact absurd rfl h
    · exact zct_sd ho)
  exact va_dast C.x C.b C.K hP hD hS q 3 (n := 1) (f := fun k => if k = 0 then σ.2.2 96 else 0) ((zwd_at G σ hq).trans rfl) rfl (vp_in_nI (n := 0) (by decide) (by decide)) d (fun H1 locs1 hP1 hD1 hS1 => kk ls H1 locs1 hl (e ▸ hP1) (e ▸ hD1) hS1)
theorem z_dald0 (C : zCx G p s m args meth c own cc nL ret) (hlive : (4, 96) ∈ zL G) (d : decode cc pc = .ok (.daload, 1)) (kk : zWV G p l e R s m args below meth c nL cells slots Q (pc + 1) lv (.double (σ.2.2 96) :: st) σ) : zWV G p l e R s m args below meth c nL cells slots Q pc lv (.int 0 :: .ref (zad G 4 96) :: st) σ := by
  intro ls H locs hl hP hD hS
  obtain ⟨q, hq⟩ := zin hlive
  exact va_dald C.x C.b C.K hP q 3 (n := 1) (f := fun k => if k = 0 then σ.2.2 96 else 0) ((zwd_at G σ hq).trans rfl) rfl (vp_in_nI (n := 0) (by decide) (by decide)) d (kk ls H locs hl hP hD hS)
theorem z_cHi (C : zCx G p s m args meth c own cc nL ret) (N : zNc s) {index n : Nat} {y : MethodName} {b : ByteArray} {ml : Nat} {rt : Option FieldType} {hh : List (Nat × Nat × Nat × Nat)} {rm : Room} {as rest : List Value} {σ' : zSt} {r : Int32} (hL : zLSH own index y b ml rt hh n) (M : zML l G y (zwsW y b ml rt hh) rm as σ (some (.int r)) σ') (hn : as.length = n) (hst : st = as.reverse ++ rest) (hrest : (rest.map fun v => v.category).sum ≤ 8) (hR : rm.frames + 1 ≤ R.frames ∧ 8 + (ml + 11) + rm.locals ≤ R.locals) (hcs : cells + rm.cells ≤ R.cells ∧ slots + rm.slots ≤ R.slots) (d : decode cc pc = .ok (.invokestatic index, 3)) (kk : zWV G p l e R s m args below meth c nL (cells + rm.cells) (slots + rm.slots) Q (pc + 3) lv (.int r :: rest) σ') : zWV G p l e R s m args below meth c nL cells slots Q pc lv st σ := by
  subst hst
  intro ls H locs hl hP hD hS
  obtain ⟨h1, h2, h3, h4, h7⟩ := hL
  have hg : GoodIn zGW (va_wsS own index y (zwsW y b ml rt hh)) := by
    intro w hw
    have hw' : w ∈ zGW := by
      unfold va_wsS at hw
      simp only [List.mem_append, List.mem_cons, List.not_mem_nil, or_false] at hw
      rcases hw with (rfl | rfl | rfl) | rfl | hw <;> assumption
    exact ⟨hw', good_of_word (List.mem_filter.mp hw').2⟩
  exact z_back (vx_runSW (As := as) (rest := rest) ⟨C.x, C.b, C.n, C.o, C.t⟩ (M H.size) (vx_cwSW n C.t hg rfl rfl rfl h7 hR) ⟨zPreN.blind, fun U hU hW => ⟨zPre.of _ C.K C.w C.F C.L hP hD hS U hU hW, N.moved hW.alike⟩⟩ rfl hn hl.1 rfl (lv_room hrest) d hcs) hS hl hD kk
/-- some room is left for what this round makes -/
theorem z_wid {cells' slots' : Nat} (h1 : cells ≤ cells') (h2 : slots ≤ slots') (k : zWV G p l e R s m args below meth c nL cells' slots' Q pc lv st σ) : zWV G p l e R s m args below meth c nL cells slots Q pc lv st σ :=
  fun ls H locs hl hP hD hS => W.widen h1 h2 (k ls H locs hl hP hD hS)
end ZL
theorem zrc {cells k n : Nat} (h : cells + 20 * (n + 1) ≤ 600000) (hk : Nat.ble k 20 = true) : cells + k ≤ 601024 := by
  have := Nat.le_of_ble_eq_true hk
  omega
theorem zrs {slots k n : Nat} (h : slots + 120 * (n + 1) ≤ 7200000) (hk : Nat.ble k 120 = true) : slots + k ≤ 7293034 := by
  have := Nat.le_of_ble_eq_true hk
  omega

theorem kl_Law_7 : zLV "VillageWavesLaw" 7 "VillageWaves" y_Waves_appendText b_Waves_appendText 3 (some .int) 1 := ⟨zq761, zq762, zq763, zq94, zq764, rfl, ⟨by decide, by decide, by decide +kernel⟩⟩
theorem kl_Law_15 : zLV "VillageWavesLaw" 15 "VillageWaves" y_Waves_truncateText b_Waves_truncateText 2 (some .int) 1 := ⟨zq841, zq842, zq843, zq94, zq844, rfl, ⟨by decide, by decide, by decide +kernel⟩⟩
theorem kl_Law_20 : zLV "VillageWavesLaw" 20 "VillageWaves" y_Waves_addHouse b_Waves_addHouse 6 (some .int) 5 := ⟨zq867, zq868, zq869, zq94, zq870, rfl, ⟨by decide, by decide, by decide +kernel⟩⟩
theorem kl_Law_24 : zLV "VillageWavesLaw" 24 "VillageWaves" y_Waves_setQuiet b_Waves_setQuiet 4 none 3 := ⟨zq878, zq879, zq880, zq94, zq881, rfl, ⟨by decide, by decide, by decide +kernel⟩⟩
theorem kl_Law_30 : zLV "VillageWavesLaw" 30 "VillageWaves" y_Waves_charge b_Waves_charge 3 (some .int) 2 := ⟨zq907, zq908, zq909, zq94, zq910, rfl, ⟨by decide, by decide, by decide +kernel⟩⟩
theorem kl_Law_34 : zLV "VillageWavesLaw" 34 "VillageWaves" y_Waves_set b_Waves_set 4 (some .int) 2 := ⟨zq916, zq917, zq918, zq94, zq919, rfl, ⟨by decide, by decide, by decide +kernel⟩⟩
theorem kl_Law_37 : zLV "VillageWavesLaw" 37 "VillageWaves" y_Waves_seed b_Waves_seed 2 none 1 := ⟨zq926, zq927, zq928, zq94, zq929, rfl, ⟨by decide, by decide, by decide +kernel⟩⟩
theorem kl_Law_41 : zLV "VillageWavesLaw" 41 "VillageWaves" y_Waves_count b_Waves_count 2 (some .int) 1 := ⟨zq934, zq935, zq936, zq94, zq937, rfl, ⟨by decide, by decide, by decide +kernel⟩⟩
theorem kl_Law_44 : zLV "VillageWavesLaw" 44 "VillageWaves" y_Waves_house b_Waves_house 3 (some .int) 2 := ⟨zq972, zq973, zq974, zq94, zq975, rfl, ⟨by decide, by decide, by decide +kernel⟩⟩
theorem kl_Law_47 : zLV "VillageWavesLaw" 47 "VillageWaves" y_Waves_entry b_Waves_entry 6 (some .int) 3 := ⟨zq998, zq999, zq1000, zq94, zq1001, rfl, ⟨by decide, by decide, by decide +kernel⟩⟩
theorem kl_Law_51 : zLV "VillageWavesLaw" 51 "VillageWaves" y_Waves_news b_Waves_news 3 (some .int) 2 := ⟨zq1032, zq1033, zq1034, zq94, zq1035, rfl, ⟨by decide, by decide, by decide +kernel⟩⟩
theorem kl_Law_54 : zLV "VillageWavesLaw" 54 "VillageWaves" y_Waves_source b_Waves_source 3 (some .int) 2 := ⟨zq1045, zq1046, zq1047, zq94, zq1048, rfl, ⟨by decide, by decide, by decide +kernel⟩⟩
theorem kl_Law_57 : zLV "VillageWavesLaw" 57 "VillageWaves" y_Waves_owes b_Waves_owes 3 (some .int) 2 := ⟨zq1052, zq1053, zq1054, zq94, zq1055, rfl, ⟨by decide, by decide, by decide +kernel⟩⟩
theorem kl_Law_60 : zLV "VillageWavesLaw" 60 "VillageWaves" y_Waves_spoken b_Waves_spoken 3 (some .int) 2 := ⟨zq1060, zq1061, zq1062, zq94, zq1063, rfl, ⟨by decide, by decide, by decide +kernel⟩⟩
theorem kl_Law_63 : zLV "VillageWavesLaw" 63 "VillageWaves" y_Waves_tell b_Waves_tell 3 (some .int) 2 := ⟨zq1073, zq1074, zq1075, zq94, zq1076, rfl, ⟨by decide, by decide, by decide +kernel⟩⟩
theorem kl_Law_66 : zLV "VillageWavesLaw" 66 "VillageWaves" y_Waves_correct b_Waves_correct 4 (some .int) 3 := ⟨zq1082, zq1083, zq1084, zq94, zq1085, rfl, ⟨by decide, by decide, by decide +kernel⟩⟩
theorem kl_Law_69 : zLV "VillageWavesLaw" 69 "VillageWaves" y_Waves_run b_Waves_run 3 (some .int) 1 := ⟨zq1108, zq1109, zq1110, zq94, zq1111, rfl, ⟨by decide, by decide, by decide +kernel⟩⟩
theorem kl_Law_72 : zLV "VillageWavesLaw" 72 "VillageWaves" y_Waves_chance b_Waves_chance 4 (some .double) 1 := ⟨zq1162, zq1163, zq1164, zq94, zq1165, rfl, ⟨by decide, by decide, by decide +kernel⟩⟩
theorem kl_Law_76 : zLV "VillageWavesLaw" 76 "VillageWaves" y_Waves_near b_Waves_near 3 (some .int) 2 := ⟨zq1170, zq1171, zq1172, zq94, zq1173, rfl, ⟨by decide, by decide, by decide +kernel⟩⟩
theorem kl_Law_79 : zLV "VillageWavesLaw" 79 "VillageWaves" y_Waves_hops b_Waves_hops 3 (some .int) 2 := ⟨zq1185, zq1186, zq1187, zq94, zq1188, rfl, ⟨by decide, by decide, by decide +kernel⟩⟩
theorem kl_Law_82 : zLV "VillageWavesLaw" 82 "VillageWaves" y_Waves_overlap b_Waves_overlap 5 (some .int) 2 := ⟨zq1200, zq1201, zq1202, zq94, zq1203, rfl, ⟨by decide, by decide, by decide +kernel⟩⟩
theorem kl_Law_85 : zLV "VillageWavesLaw" 85 "VillageWaves" y_Waves_reached b_Waves_reached 4 (some .int) 3 := ⟨zq1207, zq1208, zq1209, zq94, zq1210, rfl, ⟨by decide, by decide, by decide +kernel⟩⟩
theorem kl_Law_88 : zLV "VillageWavesLaw" 88 "VillageWaves" y_Waves_correctedIn b_Waves_correctedIn 4 (some .int) 2 := ⟨zq1214, zq1215, zq1216, zq94, zq1217, rfl, ⟨by decide, by decide, by decide +kernel⟩⟩
theorem kl_Law_91 : zLV "VillageWavesLaw" 91 "VillageWaves" y_Waves_ahead b_Waves_ahead 3 (some .int) 2 := ⟨zq1222, zq1223, zq1224, zq94, zq1225, rfl, ⟨by decide, by decide, by decide +kernel⟩⟩
theorem kl_Law_94 : zLV "VillageWavesLaw" 94 "VillageWaves" y_Waves_bestAuthor b_Waves_bestAuthor 7 (some .int) 1 := ⟨zq1233, zq1234, zq1235, zq94, zq1236, rfl, ⟨by decide, by decide, by decide +kernel⟩⟩
theorem kl_Law_97 : zLV "VillageWavesLaw" 97 "VillageWaves" y_Waves_save b_Waves_save 2 none 1 := ⟨zq1240, zq1241, zq1242, zq94, zq1243, rfl, ⟨by decide, by decide, by decide +kernel⟩⟩
theorem kl_Law_100 : zLV "VillageWavesLaw" 100 "VillageWaves" y_Waves_restore b_Waves_restore 2 none 1 := ⟨zq1252, zq1253, zq1254, zq94, zq1255, rfl, ⟨by decide, by decide, by decide +kernel⟩⟩
theorem kl_Law_112 : zLV "VillageWavesLaw" 112 "VillageWavesModel" y_Model_appendText b_Model_appendText 3 (some .int) 1 := ⟨zq1345, zq1346, zq1347, zq105, zq1348, rfl, ⟨by decide, by decide, by decide +kernel⟩⟩
theorem kl_Law_113 : zLV "VillageWavesLaw" 113 "VillageWavesModel" y_Model_thrown b_Model_thrown 1 (some .int) 0 := ⟨zq1341, zq1342, zq1343, zq105, zq1344, rfl, ⟨by decide, by decide, by decide +kernel⟩⟩
theorem kl_Law_119 : zLV "VillageWavesLaw" 119 "VillageWavesModel" y_Model_truncateText b_Model_truncateText 2 (some .int) 1 := ⟨zq1353, zq1354, zq1355, zq105, zq1356, rfl, ⟨by decide, by decide, by decide +kernel⟩⟩
theorem kl_Law_120 : zLV "VillageWavesLaw" 120 "VillageWaves" y_Waves_load b_Waves_load 2 (some .int) 0 := ⟨zq458, zq459, zq460, zq94, zq461, rfl, ⟨by decide, by decide, by decide +kernel⟩⟩
theorem kl_Law_123 : zLV "VillageWavesLaw" 123 "VillageWavesModel" y_Model_load b_Model_load 1 (some .int) 0 := ⟨zq1360, zq1361, zq1362, zq105, zq1363, rfl, ⟨by decide, by decide, by decide +kernel⟩⟩
theorem kl_Law_124 : zLV "VillageWavesLaw" 124 "VillageWaves" y_Waves_errorCode b_Waves_errorCode 1 (some .int) 0 := ⟨zq671, zq672, zq673, zq94, zq674, rfl, ⟨by decide, by decide, by decide +kernel⟩⟩
theorem kl_Law_127 : zLV "VillageWavesLaw" 127 "VillageWavesModel" y_Model_errorCode b_Model_errorCode 1 (some .int) 0 := ⟨zq1468, zq1469, zq1470, zq105, zq1471, rfl, ⟨by decide, by decide, by decide +kernel⟩⟩
theorem kl_Law_128 : zLV "VillageWavesLaw" 128 "VillageWaves" y_Waves_errorPosition b_Waves_errorPosition 1 (some .int) 0 := ⟨zq675, zq676, zq677, zq94, zq678, rfl, ⟨by decide, by decide, by decide +kernel⟩⟩
theorem kl_Law_131 : zLV "VillageWavesLaw" 131 "VillageWavesModel" y_Model_errorPosition b_Model_errorPosition 1 (some .int) 0 := ⟨zq1472, zq1473, zq1474, zq105, zq1475, rfl, ⟨by decide, by decide, by decide +kernel⟩⟩
theorem kl_Law_135 : zLV "VillageWavesLaw" 135 "VillageWavesModel" y_Model_addHouse b_Model_addHouse 6 (some .int) 5 := ⟨zq1476, zq1477, zq1478, zq105, zq1479, rfl, ⟨by decide, by decide, by decide +kernel⟩⟩
theorem kl_Law_139 : zLV "VillageWavesLaw" 139 "VillageWavesModel" y_Model_setQuiet b_Model_setQuiet 5 none 3 := ⟨zq1480, zq1481, zq1482, zq105, zq1483, rfl, ⟨by decide, by decide, by decide +kernel⟩⟩
theorem kl_Law_143 : zLV "VillageWavesLaw" 143 "VillageWavesModel" y_Model_charge b_Model_charge 3 (some .int) 2 := ⟨zq1488, zq1489, zq1490, zq105, zq1491, rfl, ⟨by decide, by decide, by decide +kernel⟩⟩
theorem kl_Law_146 : zLV "VillageWavesLaw" 146 "VillageWavesModel" y_Model_set b_Model_set 4 (some .int) 2 := ⟨zq1498, zq1499, zq1500, zq105, zq1501, rfl, ⟨by decide, by decide, by decide +kernel⟩⟩
theorem kl_Law_150 : zLV "VillageWavesLaw" 150 "VillageWavesModel" y_Model_seed b_Model_seed 2 none 1 := ⟨zq1502, zq1503, zq1504, zq105, zq1505, rfl, ⟨by decide, by decide, by decide +kernel⟩⟩
theorem kl_Law_153 : zLV "VillageWavesLaw" 153 "VillageWavesModel" y_Model_count b_Model_count 2 (some .int) 1 := ⟨zq1506, zq1507, zq1508, zq105, zq1509, rfl, ⟨by decide, by decide, by decide +kernel⟩⟩
theorem kl_Law_156 : zLV "VillageWavesLaw" 156 "VillageWavesModel" y_Model_house b_Model_house 3 (some .int) 2 := ⟨zq1546, zq1547, zq1548, zq105, zq1549, rfl, ⟨by decide, by decide, by decide +kernel⟩⟩
theorem kl_Law_160 : zLV "VillageWavesLaw" 160 "VillageWavesModel" y_Model_entry b_Model_entry 5 (some .int) 3 := ⟨zq1570, zq1571, zq1572, zq105, zq1573, rfl, ⟨by decide, by decide, by decide +kernel⟩⟩
theorem kl_Law_163 : zLV "VillageWavesLaw" 163 "VillageWavesModel" y_Model_news b_Model_news 3 (some .int) 2 := ⟨zq1606, zq1607, zq1608, zq105, zq1609, rfl, ⟨by decide, by decide, by decide +kernel⟩⟩
theorem kl_Law_166 : zLV "VillageWavesLaw" 166 "VillageWavesModel" y_Model_source b_Model_source 3 (some .int) 2 := ⟨zq1622, zq1623, zq1624, zq105, zq1625, rfl, ⟨by decide, by decide, by decide +kernel⟩⟩
theorem kl_Law_169 : zLV "VillageWavesLaw" 169 "VillageWavesModel" y_Model_owes b_Model_owes 3 (some .int) 2 := ⟨zq1626, zq1627, zq1628, zq105, zq1629, rfl, ⟨by decide, by decide, by decide +kernel⟩⟩
theorem kl_Law_172 : zLV "VillageWavesLaw" 172 "VillageWavesModel" y_Model_spoken b_Model_spoken 3 (some .int) 2 := ⟨zq1630, zq1631, zq1632, zq105, zq1633, rfl, ⟨by decide, by decide, by decide +kernel⟩⟩
theorem kl_Law_175 : zLV "VillageWavesLaw" 175 "VillageWavesModel" y_Model_tell b_Model_tell 3 (some .int) 2 := ⟨zq1634, zq1635, zq1636, zq105, zq1637, rfl, ⟨by decide, by decide, by decide +kernel⟩⟩
theorem kl_Law_178 : zLV "VillageWavesLaw" 178 "VillageWavesModel" y_Model_correct b_Model_correct 4 (some .int) 3 := ⟨zq1638, zq1639, zq1640, zq105, zq1641, rfl, ⟨by decide, by decide, by decide +kernel⟩⟩
theorem kl_Law_181 : zLV "VillageWavesLaw" 181 "VillageWavesModel" y_Model_run b_Model_run 3 (some .int) 1 := ⟨zq1649, zq1650, zq1651, zq105, zq1652, rfl, ⟨by decide, by decide, by decide +kernel⟩⟩
theorem kl_Law_182 : zLV "VillageWavesLaw" 182 "VillageWaves" y_Waves_wishes b_Waves_wishes 1 (some .int) 0 := ⟨zq679, zq680, zq681, zq94, zq682, rfl, ⟨by decide, by decide, by decide +kernel⟩⟩
theorem kl_Law_185 : zLV "VillageWavesLaw" 185 "VillageWavesModel" y_Model_wishes b_Model_wishes 2 (some .int) 0 := ⟨zq1712, zq1713, zq1714, zq105, zq1715, rfl, ⟨by decide, by decide, by decide +kernel⟩⟩
theorem kl_Law_186 : zLV "VillageWavesLaw" 186 "VillageWaves" y_Waves_next b_Waves_next 2 (some .int) 0 := ⟨zq730, zq731, zq732, zq94, zq733, rfl, ⟨by decide, by decide, by decide +kernel⟩⟩
theorem kl_Law_189 : zLV "VillageWavesLaw" 189 "VillageWavesModel" y_Model_next b_Model_next 2 (some .int) 0 := ⟨zq1716, zq1717, zq1718, zq105, zq1719, rfl, ⟨by decide, by decide, by decide +kernel⟩⟩
theorem kl_Law_193 : zLV "VillageWavesLaw" 193 "VillageWavesModel" y_Model_chance b_Model_chance 3 (some .double) 1 := ⟨zq1720, zq1721, zq1722, zq105, zq1723, rfl, ⟨by decide, by decide, by decide +kernel⟩⟩
theorem kl_Law_196 : zLV "VillageWavesLaw" 196 "VillageWavesModel" y_Model_near b_Model_near 4 (some .int) 2 := ⟨zq1724, zq1725, zq1726, zq105, zq1727, rfl, ⟨by decide, by decide, by decide +kernel⟩⟩
theorem kl_Law_199 : zLV "VillageWavesLaw" 199 "VillageWavesModel" y_Model_hops b_Model_hops 8 (some .int) 2 := ⟨zq1732, zq1733, zq1734, zq105, zq1735, rfl, ⟨by decide, by decide, by decide +kernel⟩⟩
theorem kl_Law_202 : zLV "VillageWavesLaw" 202 "VillageWavesModel" y_Model_overlap b_Model_overlap 5 (some .int) 2 := ⟨zq1736, zq1737, zq1738, zq105, zq1739, rfl, ⟨by decide, by decide, by decide +kernel⟩⟩
theorem kl_Law_203 : zLV "VillageWavesLaw" 203 "VillageWaves" y_Waves_meanBattery b_Waves_meanBattery 2 (some .float) 0 := ⟨zq748, zq749, zq750, zq94, zq751, rfl, ⟨by decide, by decide, by decide +kernel⟩⟩
theorem kl_Law_207 : zLV "VillageWavesLaw" 207 "VillageWavesModel" y_Model_meanBattery b_Model_meanBattery 3 (some .float) 0 := ⟨zq1740, zq1741, zq1742, zq105, zq1743, rfl, ⟨by decide, by decide, by decide +kernel⟩⟩
theorem kl_Law_210 : zLV "VillageWavesLaw" 210 "VillageWavesModel" y_Model_reached b_Model_reached 5 (some .int) 3 := ⟨zq1745, zq1746, zq1747, zq105, zq1748, rfl, ⟨by decide, by decide, by decide +kernel⟩⟩
theorem kl_Law_213 : zLV "VillageWavesLaw" 213 "VillageWavesModel" y_Model_correctedIn b_Model_correctedIn 5 (some .int) 2 := ⟨zq1749, zq1750, zq1751, zq105, zq1752, rfl, ⟨by decide, by decide, by decide +kernel⟩⟩
theorem kl_Law_216 : zLV "VillageWavesLaw" 216 "VillageWavesModel" y_Model_ahead b_Model_ahead 4 (some .int) 2 := ⟨zq1753, zq1754, zq1755, zq105, zq1756, rfl, ⟨by decide, by decide, by decide +kernel⟩⟩
theorem kl_Law_219 : zLV "VillageWavesLaw" 219 "VillageWavesModel" y_Model_bestAuthor b_Model_bestAuthor 7 (some .int) 1 := ⟨zq1757, zq1758, zq1759, zq105, zq1760, rfl, ⟨by decide, by decide, by decide +kernel⟩⟩
theorem kl_Law_222 : zLV "VillageWavesLaw" 222 "VillageWavesModel" y_Model_save b_Model_save 2 none 1 := ⟨zq1761, zq1762, zq1763, zq105, zq1764, rfl, ⟨by decide, by decide, by decide +kernel⟩⟩
theorem kl_Law_225 : zLV "VillageWavesLaw" 225 "VillageWavesModel" y_Model_restore b_Model_restore 2 none 1 := ⟨zq1765, zq1766, zq1767, zq105, zq1768, rfl, ⟨by decide, by decide, by decide +kernel⟩⟩
abbrev b_Law_appendText : ByteArray := method_3_code
abbrev y_Law_appendText : MethodName := ⟨"VillageWavesLaw", "appendText", "(LVillageWaves;I[J)I"⟩
abbrev rm_Law_appendText : Room := { frames := 7, cells := 1, slots := 6, locals := 114 }
theorem d_Law_appendText_0 : decode b_Law_appendText 0 = .ok (.aload_n 2, 1) := by decide +kernel
theorem d_Law_appendText_1 : decode b_Law_appendText 1 = .ok (.iconst 0, 1) := by decide +kernel
theorem d_Law_appendText_2 : decode b_Law_appendText 2 = .ok (.aload_n 0, 1) := by decide +kernel
theorem d_Law_appendText_3 : decode b_Law_appendText 3 = .ok (.iload_n 1, 1) := by decide +kernel
theorem d_Law_appendText_4 : decode b_Law_appendText 4 = .ok (.invokevirtual 7, 3) := by decide +kernel
theorem d_Law_appendText_7 : decode b_Law_appendText 7 = .ok (.i2l, 1) := by decide +kernel
theorem d_Law_appendText_8 : decode b_Law_appendText 8 = .ok (.lastore, 1) := by decide +kernel
theorem d_Law_appendText_9 : decode b_Law_appendText 9 = .ok (.goto 6, 3) := by decide +kernel
theorem d_Law_appendText_12 : decode b_Law_appendText 12 = .ok (.astore_n 3, 1) := by decide +kernel
theorem d_Law_appendText_13 : decode b_Law_appendText 13 = .ok (.iconst 1, 1) := by decide +kernel
theorem d_Law_appendText_14 : decode b_Law_appendText 14 = .ok (.ireturn, 1) := by decide +kernel
theorem d_Law_appendText_15 : decode b_Law_appendText 15 = .ok (.iconst 0, 1) := by decide +kernel
theorem d_Law_appendText_16 : decode b_Law_appendText 16 = .ok (.ireturn, 1) := by decide +kernel
def F_Law_appendText (a0 : Int32) (σ : zSt) : Option (Int32 × zSt) :=
  (F_Waves_appendText a0 σ).bind fun q => match q with | .inr E => (if E = "java/lang/IllegalStateException" then some (1, σ) else none) | .inl z => some ((0, zsl z.2 95 z.1.toInt64))
set_option maxHeartbeats 4000000 in
set_option maxRecDepth 100000 in
theorem c_Law_appendText {l : Launch} (hst : l.stackTraces = false) {G : zLA} (hx : zxl G) (ho : (4, 95) ∈ zL G) {a0 : Int32} {σ σ' : zSt} {r : Int32} (hf : F_Law_appendText a0 σ = some (r, σ')) : zML l G y_Law_appendText (zwsW y_Law_appendText b_Law_appendText 4 (some .int) [(0, 9, 12, 13)]) rm_Law_appendText [.ref (zad G 4 70), .int a0, .ref (zad G 4 95)] σ (some (.int r)) σ' := by
  refine z_ofML (own := "VillageWavesLaw") (lv := [(0, .ref (zad G 4 70)), (1, .int a0), (2, .ref (zad G 4 95))]) (by decide +kernel) rfl rfl (Nat.le_of_ble_eq_true rfl) (fun p e s m args below meth c C N T => ?_)
  rw [F_Law_appendText] at hf
  obtain ⟨q, h1, hf⟩ := bd_s hf
  refine z_aload_n C d_Law_appendText_0 2 rfl rfl ?_
  refine z_iconst C d_Law_appendText_1 zki_0 ?_
  refine z_aload_n C d_Law_appendText_2 0 rfl rfl ?_
  refine z_iload_n C d_Law_appendText_3 1 rfl rfl ?_
  refine z_callXV C kl_Law_7 rfl (c_Waves_appendText hst hx h1) (zx4 hx 70 rfl) rfl rfl rfl (Nat.le_of_ble_eq_true rfl) ⟨(Nat.le_of_ble_eq_true rfl), (Nat.le_of_ble_eq_true rfl)⟩ ⟨(Nat.le_of_ble_eq_true rfl), (Nat.le_of_ble_eq_true rfl)⟩ d_Law_appendText_4 (fun E hE => ?_) (fun ov σ1 hE => ?_)
  · cases q with
    | inl z => cases hE
    | inr E0 =>
      cases hE
      by_cases e0 : E = "java/lang/IllegalStateException"
      · subst e0
        have hf := iff_t hf rfl
        cases hf
        refine z_catch C [] ⟨0, 9, 12, 13⟩ [] (T.trans rfl) (fun z hz => absurd hz List.not_mem_nil) (by decide +kernel) (by decide) zq760 zp767 (fun q => ?_)
        refine z_astore_n C d_Law_appendText_12 rfl (by decide) ?_
        refine z_iconst C d_Law_appendText_13 zki_1 ?_
        exact z_iret C rfl (Nat.le_of_ble_eq_true rfl) (Nat.le_of_ble_eq_true rfl) d_Law_appendText_14
      · have hf := hf
        have hf := iff_f hf e0
        cases hf
  · cases q with
    | inr E0 => cases hE
    | inl z =>
      cases hE
      cases hf
      refine z_i2l C d_Law_appendText_7 ?_
      refine z_last0 C ho d_Law_appendText_8 ?_
      refine z_goto (tgt := 15) C d_Law_appendText_9 rfl ?_
      refine z_iconst C d_Law_appendText_15 zki_0 ?_
      exact z_iret C rfl (Nat.le_of_ble_eq_true rfl) (Nat.le_of_ble_eq_true rfl) d_Law_appendText_16
abbrev b_Law_truncateText : ByteArray := method_4_code
abbrev y_Law_truncateText : MethodName := ⟨"VillageWavesLaw", "truncateText", "(LVillageWaves;I[J)I"⟩
abbrev rm_Law_truncateText : Room := { frames := 8, cells := 1, slots := 6, locals := 135 }
theorem d_Law_truncateText_0 : decode b_Law_truncateText 0 = .ok (.aload_n 2, 1) := by decide +kernel
theorem d_Law_truncateText_1 : decode b_Law_truncateText 1 = .ok (.iconst 0, 1) := by decide +kernel
theorem d_Law_truncateText_2 : decode b_Law_truncateText 2 = .ok (.aload_n 0, 1) := by decide +kernel
theorem d_Law_truncateText_3 : decode b_Law_truncateText 3 = .ok (.iload_n 1, 1) := by decide +kernel
theorem d_Law_truncateText_4 : decode b_Law_truncateText 4 = .ok (.invokevirtual 15, 3) := by decide +kernel
theorem d_Law_truncateText_7 : decode b_Law_truncateText 7 = .ok (.i2l, 1) := by decide +kernel
theorem d_Law_truncateText_8 : decode b_Law_truncateText 8 = .ok (.lastore, 1) := by decide +kernel
theorem d_Law_truncateText_9 : decode b_Law_truncateText 9 = .ok (.goto 6, 3) := by decide +kernel
theorem d_Law_truncateText_12 : decode b_Law_truncateText 12 = .ok (.astore_n 3, 1) := by decide +kernel
theorem d_Law_truncateText_13 : decode b_Law_truncateText 13 = .ok (.iconst 1, 1) := by decide +kernel
theorem d_Law_truncateText_14 : decode b_Law_truncateText 14 = .ok (.ireturn, 1) := by decide +kernel
theorem d_Law_truncateText_15 : decode b_Law_truncateText 15 = .ok (.iconst 0, 1) := by decide +kernel
theorem d_Law_truncateText_16 : decode b_Law_truncateText 16 = .ok (.ireturn, 1) := by decide +kernel
def F_Law_truncateText (a0 : Int32) (σ : zSt) : Option (Int32 × zSt) :=
  (F_Waves_truncateText a0 σ).bind fun q => match q with | .inr E => (if E = "java/lang/IllegalArgumentException" then some (1, σ) else none) | .inl z => some ((0, zsl z.2 95 z.1.toInt64))
set_option maxHeartbeats 4000000 in
set_option maxRecDepth 100000 in
theorem c_Law_truncateText {l : Launch} (hst : l.stackTraces = false) {G : zLA} (hx : zxl G) (ho : (4, 95) ∈ zL G) {a0 : Int32} {σ σ' : zSt} {r : Int32} (hf : F_Law_truncateText a0 σ = some (r, σ')) : zML l G y_Law_truncateText (zwsW y_Law_truncateText b_Law_truncateText 4 (some .int) [(0, 9, 12, 18)]) rm_Law_truncateText [.ref (zad G 4 70), .int a0, .ref (zad G 4 95)] σ (some (.int r)) σ' := by
  refine z_ofML (own := "VillageWavesLaw") (lv := [(0, .ref (zad G 4 70)), (1, .int a0), (2, .ref (zad G 4 95))]) (by decide +kernel) rfl rfl (Nat.le_of_ble_eq_true rfl) (fun p e s m args below meth c C N T => ?_)
  rw [F_Law_truncateText] at hf
  obtain ⟨q, h1, hf⟩ := bd_s hf
  refine z_aload_n C d_Law_truncateText_0 2 rfl rfl ?_
  refine z_iconst C d_Law_truncateText_1 zki_0 ?_
  refine z_aload_n C d_Law_truncateText_2 0 rfl rfl ?_
  refine z_iload_n C d_Law_truncateText_3 1 rfl rfl ?_
  refine z_callXV C kl_Law_15 rfl (c_Waves_truncateText hst hx h1) (zx4 hx 70 rfl) rfl rfl rfl (Nat.le_of_ble_eq_true rfl) ⟨(Nat.le_of_ble_eq_true rfl), (Nat.le_of_ble_eq_true rfl)⟩ ⟨(Nat.le_of_ble_eq_true rfl), (Nat.le_of_ble_eq_true rfl)⟩ d_Law_truncateText_4 (fun E hE => ?_) (fun ov σ1 hE => ?_)
  · cases q with
    | inl z => cases hE
    | inr E0 =>
      cases hE
      by_cases e0 : E = "java/lang/IllegalArgumentException"
      · subst e0
        have hf := iff_t hf rfl
        cases hf
        refine z_catch C [] ⟨0, 9, 12, 18⟩ [] (T.trans rfl) (fun z hz => absurd hz List.not_mem_nil) (by decide +kernel) (by decide) zq840 zp850 (fun q => ?_)
        refine z_astore_n C d_Law_truncateText_12 rfl (by decide) ?_
        refine z_iconst C d_Law_truncateText_13 zki_1 ?_
        exact z_iret C rfl (Nat.le_of_ble_eq_true rfl) (Nat.le_of_ble_eq_true rfl) d_Law_truncateText_14
      · have hf := hf
        have hf := iff_f hf e0
        cases hf
  · cases q with
    | inr E0 => cases hE
    | inl z =>
      cases hE
      cases hf
      refine z_i2l C d_Law_truncateText_7 ?_
      refine z_last0 C ho d_Law_truncateText_8 ?_
      refine z_goto (tgt := 15) C d_Law_truncateText_9 rfl ?_
      refine z_iconst C d_Law_truncateText_15 zki_0 ?_
      exact z_iret C rfl (Nat.le_of_ble_eq_true rfl) (Nat.le_of_ble_eq_true rfl) d_Law_truncateText_16
abbrev b_Law_addHouse : ByteArray := method_5_code
abbrev y_Law_addHouse : MethodName := ⟨"VillageWavesLaw", "addHouse", "(LVillageWaves;IIIII[J)I"⟩
abbrev rm_Law_addHouse : Room := { frames := 8, cells := 6, slots := 36, locals := 139 }
theorem d_Law_addHouse_0 : decode b_Law_addHouse 0 = .ok (.aload 6, 2) := by decide +kernel
theorem d_Law_addHouse_2 : decode b_Law_addHouse 2 = .ok (.iconst 0, 1) := by decide +kernel
theorem d_Law_addHouse_3 : decode b_Law_addHouse 3 = .ok (.aload_n 0, 1) := by decide +kernel
theorem d_Law_addHouse_4 : decode b_Law_addHouse 4 = .ok (.iload_n 1, 1) := by decide +kernel
theorem d_Law_addHouse_5 : decode b_Law_addHouse 5 = .ok (.iload_n 2, 1) := by decide +kernel
theorem d_Law_addHouse_6 : decode b_Law_addHouse 6 = .ok (.iload_n 3, 1) := by decide +kernel
theorem d_Law_addHouse_7 : decode b_Law_addHouse 7 = .ok (.iload 4, 2) := by decide +kernel
theorem d_Law_addHouse_9 : decode b_Law_addHouse 9 = .ok (.iload 5, 2) := by decide +kernel
theorem d_Law_addHouse_11 : decode b_Law_addHouse 11 = .ok (.invokevirtual 20, 3) := by decide +kernel
theorem d_Law_addHouse_14 : decode b_Law_addHouse 14 = .ok (.i2l, 1) := by decide +kernel
theorem d_Law_addHouse_15 : decode b_Law_addHouse 15 = .ok (.lastore, 1) := by decide +kernel
theorem d_Law_addHouse_16 : decode b_Law_addHouse 16 = .ok (.goto 11, 3) := by decide +kernel
theorem d_Law_addHouse_19 : decode b_Law_addHouse 19 = .ok (.astore 7, 2) := by decide +kernel
theorem d_Law_addHouse_21 : decode b_Law_addHouse 21 = .ok (.iconst 1, 1) := by decide +kernel
theorem d_Law_addHouse_22 : decode b_Law_addHouse 22 = .ok (.ireturn, 1) := by decide +kernel
theorem d_Law_addHouse_23 : decode b_Law_addHouse 23 = .ok (.astore 7, 2) := by decide +kernel
theorem d_Law_addHouse_25 : decode b_Law_addHouse 25 = .ok (.iconst 2, 1) := by decide +kernel
theorem d_Law_addHouse_26 : decode b_Law_addHouse 26 = .ok (.ireturn, 1) := by decide +kernel
theorem d_Law_addHouse_27 : decode b_Law_addHouse 27 = .ok (.iconst 0, 1) := by decide +kernel
theorem d_Law_addHouse_28 : decode b_Law_addHouse 28 = .ok (.ireturn, 1) := by decide +kernel
def F_Law_addHouse (a0 : Int32) (a1 : Int32) (a2 : Int32) (a3 : Int32) (a4 : Int32) (σ : zSt) : Option (Int32 × zSt) :=
  (F_Waves_addHouse a0 a1 a2 a3 a4 σ).bind fun q => match q with | .inr E => (if E = "java/lang/IllegalArgumentException" then some (1, σ) else (if E = "java/lang/IllegalStateException" then some (2, σ) else none)) | .inl z => some ((0, zsl z.2 95 z.1.toInt64))
set_option maxHeartbeats 4000000 in
set_option maxRecDepth 100000 in
theorem c_Law_addHouse {l : Launch} (hst : l.stackTraces = false) {G : zLA} (hx : zxl G) (ho : (4, 95) ∈ zL G) {a0 : Int32} {a1 : Int32} {a2 : Int32} {a3 : Int32} {a4 : Int32} {σ σ' : zSt} {r : Int32} (hf : F_Law_addHouse a0 a1 a2 a3 a4 σ = some (r, σ')) : zML l G y_Law_addHouse (zwsW y_Law_addHouse b_Law_addHouse 8 (some .int) [(0, 16, 19, 18), (0, 16, 23, 13)]) rm_Law_addHouse [.ref (zad G 4 70), .int a0, .int a1, .int a2, .int a3, .int a4, .ref (zad G 4 95)] σ (some (.int r)) σ' := by
  refine z_ofML (own := "VillageWavesLaw") (lv := [(0, .ref (zad G 4 70)), (1, .int a0), (2, .int a1), (3, .int a2), (4, .int a3), (5, .int a4), (6, .ref (zad G 4 95))]) (by decide +kernel) rfl rfl (Nat.le_of_ble_eq_true rfl) (fun p e s m args below meth c C N T => ?_)
  rw [F_Law_addHouse] at hf
  obtain ⟨q, h1, hf⟩ := bd_s hf
  refine z_aload C d_Law_addHouse_0 6 rfl ?_
  refine z_iconst C d_Law_addHouse_2 zki_0 ?_
  refine z_aload_n C d_Law_addHouse_3 0 rfl rfl ?_
  refine z_iload_n C d_Law_addHouse_4 1 rfl rfl ?_
  refine z_iload_n C d_Law_addHouse_5 2 rfl rfl ?_
  refine z_iload_n C d_Law_addHouse_6 3 rfl rfl ?_
  refine z_iload C d_Law_addHouse_7 4 rfl ?_
  refine z_iload C d_Law_addHouse_9 5 rfl ?_
  refine z_callXV C kl_Law_20 rfl (c_Waves_addHouse hst hx h1) (zx4 hx 70 rfl) rfl rfl rfl (Nat.le_of_ble_eq_true rfl) ⟨(Nat.le_of_ble_eq_true rfl), (Nat.le_of_ble_eq_true rfl)⟩ ⟨(Nat.le_of_ble_eq_true rfl), (Nat.le_of_ble_eq_true rfl)⟩ d_Law_addHouse_11 (fun E hE => ?_) (fun ov σ1 hE => ?_)
  · cases q with
    | inl z => cases hE
    | inr E0 =>
      cases hE
      by_cases e0 : E = "java/lang/IllegalArgumentException"
      · subst e0
        have hf := iff_t hf rfl
        cases hf
        refine z_catch C [] ⟨0, 16, 19, 18⟩ [⟨0, 16, 23, 13⟩] (T.trans rfl) (fun z hz => absurd hz List.not_mem_nil) (by decide +kernel) (by decide) zq840 zp850 (fun q => ?_)
        refine z_astore C d_Law_addHouse_19 (by decide) ?_
        refine z_iconst C d_Law_addHouse_21 zki_1 ?_
        exact z_iret C rfl (Nat.le_of_ble_eq_true rfl) (Nat.le_of_ble_eq_true rfl) d_Law_addHouse_22
      · have hf := hf
        by_cases e1 : E = "java/lang/IllegalStateException"
        · subst e1
          have hf := iff_f hf (by decide)
          have hf := iff_t hf rfl
          cases hf
          refine z_catch C [⟨0, 16, 19, 18⟩] ⟨0, 16, 23, 13⟩ [] (T.trans rfl) (fun z hz => by rw [List.mem_singleton.mp hz]; exact Or.inr ⟨by decide, "java/lang/IllegalArgumentException", zq840, N.1⟩) (by decide +kernel) (by decide) zq760 zp767 (fun q => ?_)
          refine z_astore C d_Law_addHouse_23 (by decide) ?_
          refine z_iconst C d_Law_addHouse_25 zki_2 ?_
          exact z_iret C rfl (Nat.le_of_ble_eq_true rfl) (Nat.le_of_ble_eq_true rfl) d_Law_addHouse_26
        · have hf := hf
          have hf := iff_f hf e0
          have hf := iff_f hf e1
          cases hf
  · cases q with
    | inr E0 => cases hE
    | inl z =>
      cases hE
      cases hf
      refine z_i2l C d_Law_addHouse_14 ?_
      refine z_last0 C ho d_Law_addHouse_15 ?_
      refine z_goto (tgt := 27) C d_Law_addHouse_16 rfl ?_
      refine z_iconst C d_Law_addHouse_27 zki_0 ?_
      exact z_iret C rfl (Nat.le_of_ble_eq_true rfl) (Nat.le_of_ble_eq_true rfl) d_Law_addHouse_28
abbrev b_Law_setQuiet : ByteArray := method_6_code
abbrev y_Law_setQuiet : MethodName := ⟨"VillageWavesLaw", "setQuiet", "(LVillageWaves;III)I"⟩
abbrev rm_Law_setQuiet : Room := { frames := 8, cells := 4, slots := 24, locals := 137 }
theorem d_Law_setQuiet_0 : decode b_Law_setQuiet 0 = .ok (.aload_n 0, 1) := by decide +kernel
theorem d_Law_setQuiet_1 : decode b_Law_setQuiet 1 = .ok (.iload_n 1, 1) := by decide +kernel
theorem d_Law_setQuiet_2 : decode b_Law_setQuiet 2 = .ok (.iload_n 2, 1) := by decide +kernel
theorem d_Law_setQuiet_3 : decode b_Law_setQuiet 3 = .ok (.iload_n 3, 1) := by decide +kernel
theorem d_Law_setQuiet_4 : decode b_Law_setQuiet 4 = .ok (.invokevirtual 24, 3) := by decide +kernel
theorem d_Law_setQuiet_7 : decode b_Law_setQuiet 7 = .ok (.goto 11, 3) := by decide +kernel
theorem d_Law_setQuiet_10 : decode b_Law_setQuiet 10 = .ok (.astore 4, 2) := by decide +kernel
theorem d_Law_setQuiet_12 : decode b_Law_setQuiet 12 = .ok (.iconst 1, 1) := by decide +kernel
theorem d_Law_setQuiet_13 : decode b_Law_setQuiet 13 = .ok (.ireturn, 1) := by decide +kernel
theorem d_Law_setQuiet_14 : decode b_Law_setQuiet 14 = .ok (.astore 4, 2) := by decide +kernel
theorem d_Law_setQuiet_16 : decode b_Law_setQuiet 16 = .ok (.iconst 2, 1) := by decide +kernel
theorem d_Law_setQuiet_17 : decode b_Law_setQuiet 17 = .ok (.ireturn, 1) := by decide +kernel
theorem d_Law_setQuiet_18 : decode b_Law_setQuiet 18 = .ok (.iconst 0, 1) := by decide +kernel
theorem d_Law_setQuiet_19 : decode b_Law_setQuiet 19 = .ok (.ireturn, 1) := by decide +kernel
def F_Law_setQuiet (a0 : Int32) (a1 : Int32) (a2 : Int32) (σ : zSt) : Option (Int32 × zSt) :=
  (F_Waves_setQuiet a0 a1 a2 σ).bind fun q => match q with | .inr E => (if E = "java/lang/IndexOutOfBoundsException" then some (1, σ) else (if E = "java/lang/IllegalArgumentException" then some (2, σ) else none)) | .inl z => some ((0, z))
set_option maxHeartbeats 4000000 in
set_option maxRecDepth 100000 in
theorem c_Law_setQuiet {l : Launch} (hst : l.stackTraces = false) {G : zLA} (hx : zxl G) {a0 : Int32} {a1 : Int32} {a2 : Int32} {σ σ' : zSt} {r : Int32} (hf : F_Law_setQuiet a0 a1 a2 σ = some (r, σ')) : zML l G y_Law_setQuiet (zwsW y_Law_setQuiet b_Law_setQuiet 5 (some .int) [(0, 7, 10, 28), (0, 7, 14, 18)]) rm_Law_setQuiet [.ref (zad G 4 70), .int a0, .int a1, .int a2] σ (some (.int r)) σ' := by
  refine z_ofML (own := "VillageWavesLaw") (lv := [(0, .ref (zad G 4 70)), (1, .int a0), (2, .int a1), (3, .int a2)]) (by decide +kernel) rfl rfl (Nat.le_of_ble_eq_true rfl) (fun p e s m args below meth c C N T => ?_)
  rw [F_Law_setQuiet] at hf
  obtain ⟨q, h1, hf⟩ := bd_s hf
  refine z_aload_n C d_Law_setQuiet_0 0 rfl rfl ?_
  refine z_iload_n C d_Law_setQuiet_1 1 rfl rfl ?_
  refine z_iload_n C d_Law_setQuiet_2 2 rfl rfl ?_
  refine z_iload_n C d_Law_setQuiet_3 3 rfl rfl ?_
  refine z_callXV C kl_Law_24 rfl (c_Waves_setQuiet hst hx h1) (zx4 hx 70 rfl) rfl rfl rfl (Nat.le_of_ble_eq_true rfl) ⟨(Nat.le_of_ble_eq_true rfl), (Nat.le_of_ble_eq_true rfl)⟩ ⟨(Nat.le_of_ble_eq_true rfl), (Nat.le_of_ble_eq_true rfl)⟩ d_Law_setQuiet_4 (fun E hE => ?_) (fun ov σ1 hE => ?_)
  · cases q with
    | inl z => cases hE
    | inr E0 =>
      cases hE
      by_cases e0 : E = "java/lang/IndexOutOfBoundsException"
      · subst e0
        have hf := iff_t hf rfl
        cases hf
        refine z_catch C [] ⟨0, 7, 10, 28⟩ [⟨0, 7, 14, 18⟩] (T.trans rfl) (fun z hz => absurd hz List.not_mem_nil) (by decide +kernel) (by decide) zq877 zp888 (fun q => ?_)
        refine z_astore C d_Law_setQuiet_10 (by decide) ?_
        refine z_iconst C d_Law_setQuiet_12 zki_1 ?_
        exact z_iret C rfl (Nat.le_of_ble_eq_true rfl) (Nat.le_of_ble_eq_true rfl) d_Law_setQuiet_13
      · have hf := hf
        by_cases e1 : E = "java/lang/IllegalArgumentException"
        · subst e1
          have hf := iff_f hf (by decide)
          have hf := iff_t hf rfl
          cases hf
          refine z_catch C [⟨0, 7, 10, 28⟩] ⟨0, 7, 14, 18⟩ [] (T.trans rfl) (fun z hz => by rw [List.mem_singleton.mp hz]; exact Or.inr ⟨by decide, "java/lang/IndexOutOfBoundsException", zq877, N.2⟩) (by decide +kernel) (by decide) zq840 zp850 (fun q => ?_)
          refine z_astore C d_Law_setQuiet_14 (by decide) ?_
          refine z_iconst C d_Law_setQuiet_16 zki_2 ?_
          exact z_iret C rfl (Nat.le_of_ble_eq_true rfl) (Nat.le_of_ble_eq_true rfl) d_Law_setQuiet_17
        · have hf := hf
          have hf := iff_f hf e0
          have hf := iff_f hf e1
          cases hf
  · cases q with
    | inr E0 => cases hE
    | inl z =>
      cases hE
      cases hf
      refine z_goto (tgt := 18) C d_Law_setQuiet_7 rfl ?_
      refine z_iconst C d_Law_setQuiet_18 zki_0 ?_
      exact z_iret C rfl (Nat.le_of_ble_eq_true rfl) (Nat.le_of_ble_eq_true rfl) d_Law_setQuiet_19
abbrev b_Law_charge : ByteArray := method_7_code
abbrev y_Law_charge : MethodName := ⟨"VillageWavesLaw", "charge", "(LVillageWaves;II[J)I"⟩
abbrev rm_Law_charge : Room := { frames := 8, cells := 2, slots := 12, locals := 136 }
theorem d_Law_charge_0 : decode b_Law_charge 0 = .ok (.aload_n 3, 1) := by decide +kernel
theorem d_Law_charge_1 : decode b_Law_charge 1 = .ok (.iconst 0, 1) := by decide +kernel
theorem d_Law_charge_2 : decode b_Law_charge 2 = .ok (.aload_n 0, 1) := by decide +kernel
theorem d_Law_charge_3 : decode b_Law_charge 3 = .ok (.iload_n 1, 1) := by decide +kernel
theorem d_Law_charge_4 : decode b_Law_charge 4 = .ok (.iload_n 2, 1) := by decide +kernel
theorem d_Law_charge_5 : decode b_Law_charge 5 = .ok (.invokevirtual 30, 3) := by decide +kernel
theorem d_Law_charge_8 : decode b_Law_charge 8 = .ok (.i2l, 1) := by decide +kernel
theorem d_Law_charge_9 : decode b_Law_charge 9 = .ok (.lastore, 1) := by decide +kernel
theorem d_Law_charge_10 : decode b_Law_charge 10 = .ok (.goto 11, 3) := by decide +kernel
theorem d_Law_charge_13 : decode b_Law_charge 13 = .ok (.astore 4, 2) := by decide +kernel
theorem d_Law_charge_15 : decode b_Law_charge 15 = .ok (.iconst 1, 1) := by decide +kernel
theorem d_Law_charge_16 : decode b_Law_charge 16 = .ok (.ireturn, 1) := by decide +kernel
theorem d_Law_charge_17 : decode b_Law_charge 17 = .ok (.astore 4, 2) := by decide +kernel
theorem d_Law_charge_19 : decode b_Law_charge 19 = .ok (.iconst 2, 1) := by decide +kernel
theorem d_Law_charge_20 : decode b_Law_charge 20 = .ok (.ireturn, 1) := by decide +kernel
theorem d_Law_charge_21 : decode b_Law_charge 21 = .ok (.iconst 0, 1) := by decide +kernel
theorem d_Law_charge_22 : decode b_Law_charge 22 = .ok (.ireturn, 1) := by decide +kernel
def F_Law_charge (a0 : Int32) (a1 : Int32) (σ : zSt) : Option (Int32 × zSt) :=
  (F_Waves_charge a0 a1 σ).bind fun q => match q with | .inr E => (if E = "java/lang/IndexOutOfBoundsException" then some (1, σ) else (if E = "java/lang/IllegalArgumentException" then some (2, σ) else none)) | .inl z => some ((0, zsl z.2 95 z.1.toInt64))
set_option maxHeartbeats 4000000 in
set_option maxRecDepth 100000 in
theorem c_Law_charge {l : Launch} (hst : l.stackTraces = false) {G : zLA} (hx : zxl G) (ho : (4, 95) ∈ zL G) {a0 : Int32} {a1 : Int32} {σ σ' : zSt} {r : Int32} (hf : F_Law_charge a0 a1 σ = some (r, σ')) : zML l G y_Law_charge (zwsW y_Law_charge b_Law_charge 5 (some .int) [(0, 10, 13, 28), (0, 10, 17, 18)]) rm_Law_charge [.ref (zad G 4 70), .int a0, .int a1, .ref (zad G 4 95)] σ (some (.int r)) σ' := by
  refine z_ofML (own := "VillageWavesLaw") (lv := [(0, .ref (zad G 4 70)), (1, .int a0), (2, .int a1), (3, .ref (zad G 4 95))]) (by decide +kernel) rfl rfl (Nat.le_of_ble_eq_true rfl) (fun p e s m args below meth c C N T => ?_)
  rw [F_Law_charge] at hf
  obtain ⟨q, h1, hf⟩ := bd_s hf
  refine z_aload_n C d_Law_charge_0 3 rfl rfl ?_
  refine z_iconst C d_Law_charge_1 zki_0 ?_
  refine z_aload_n C d_Law_charge_2 0 rfl rfl ?_
  refine z_iload_n C d_Law_charge_3 1 rfl rfl ?_
  refine z_iload_n C d_Law_charge_4 2 rfl rfl ?_
  refine z_callXV C kl_Law_30 rfl (c_Waves_charge hst hx h1) (zx4 hx 70 rfl) rfl rfl rfl (Nat.le_of_ble_eq_true rfl) ⟨(Nat.le_of_ble_eq_true rfl), (Nat.le_of_ble_eq_true rfl)⟩ ⟨(Nat.le_of_ble_eq_true rfl), (Nat.le_of_ble_eq_true rfl)⟩ d_Law_charge_5 (fun E hE => ?_) (fun ov σ1 hE => ?_)
  · cases q with
    | inl z => cases hE
    | inr E0 =>
      cases hE
      by_cases e0 : E = "java/lang/IndexOutOfBoundsException"
      · subst e0
        have hf := iff_t hf rfl
        cases hf
        refine z_catch C [] ⟨0, 10, 13, 28⟩ [⟨0, 10, 17, 18⟩] (T.trans rfl) (fun z hz => absurd hz List.not_mem_nil) (by decide +kernel) (by decide) zq877 zp888 (fun q => ?_)
        refine z_astore C d_Law_charge_13 (by decide) ?_
        refine z_iconst C d_Law_charge_15 zki_1 ?_
        exact z_iret C rfl (Nat.le_of_ble_eq_true rfl) (Nat.le_of_ble_eq_true rfl) d_Law_charge_16
      · have hf := hf
        by_cases e1 : E = "java/lang/IllegalArgumentException"
        · subst e1
          have hf := iff_f hf (by decide)
          have hf := iff_t hf rfl
          cases hf
          refine z_catch C [⟨0, 10, 13, 28⟩] ⟨0, 10, 17, 18⟩ [] (T.trans rfl) (fun z hz => by rw [List.mem_singleton.mp hz]; exact Or.inr ⟨by decide, "java/lang/IndexOutOfBoundsException", zq877, N.2⟩) (by decide +kernel) (by decide) zq840 zp850 (fun q => ?_)
          refine z_astore C d_Law_charge_17 (by decide) ?_
          refine z_iconst C d_Law_charge_19 zki_2 ?_
          exact z_iret C rfl (Nat.le_of_ble_eq_true rfl) (Nat.le_of_ble_eq_true rfl) d_Law_charge_20
        · have hf := hf
          have hf := iff_f hf e0
          have hf := iff_f hf e1
          cases hf
  · cases q with
    | inr E0 => cases hE
    | inl z =>
      cases hE
      cases hf
      refine z_i2l C d_Law_charge_8 ?_
      refine z_last0 C ho d_Law_charge_9 ?_
      refine z_goto (tgt := 21) C d_Law_charge_10 rfl ?_
      refine z_iconst C d_Law_charge_21 zki_0 ?_
      exact z_iret C rfl (Nat.le_of_ble_eq_true rfl) (Nat.le_of_ble_eq_true rfl) d_Law_charge_22
abbrev b_Law_set : ByteArray := method_8_code
abbrev y_Law_set : MethodName := ⟨"VillageWavesLaw", "set", "(LVillageWaves;II[J)I"⟩
abbrev rm_Law_set : Room := { frames := 8, cells := 2, slots := 12, locals := 137 }
theorem d_Law_set_0 : decode b_Law_set 0 = .ok (.aload_n 3, 1) := by decide +kernel
theorem d_Law_set_1 : decode b_Law_set 1 = .ok (.iconst 0, 1) := by decide +kernel
theorem d_Law_set_2 : decode b_Law_set 2 = .ok (.aload_n 0, 1) := by decide +kernel
theorem d_Law_set_3 : decode b_Law_set 3 = .ok (.iload_n 1, 1) := by decide +kernel
theorem d_Law_set_4 : decode b_Law_set 4 = .ok (.iload_n 2, 1) := by decide +kernel
theorem d_Law_set_5 : decode b_Law_set 5 = .ok (.invokevirtual 34, 3) := by decide +kernel
theorem d_Law_set_8 : decode b_Law_set 8 = .ok (.i2l, 1) := by decide +kernel
theorem d_Law_set_9 : decode b_Law_set 9 = .ok (.lastore, 1) := by decide +kernel
theorem d_Law_set_10 : decode b_Law_set 10 = .ok (.goto 7, 3) := by decide +kernel
theorem d_Law_set_13 : decode b_Law_set 13 = .ok (.astore 4, 2) := by decide +kernel
theorem d_Law_set_15 : decode b_Law_set 15 = .ok (.iconst 1, 1) := by decide +kernel
theorem d_Law_set_16 : decode b_Law_set 16 = .ok (.ireturn, 1) := by decide +kernel
theorem d_Law_set_17 : decode b_Law_set 17 = .ok (.iconst 0, 1) := by decide +kernel
theorem d_Law_set_18 : decode b_Law_set 18 = .ok (.ireturn, 1) := by decide +kernel
def F_Law_set (a0 : Int32) (a1 : Int32) (σ : zSt) : Option (Int32 × zSt) :=
  (F_Waves_set a0 a1 σ).bind fun q => match q with | .inr E => (if E = "java/lang/IllegalArgumentException" then some (1, σ) else none) | .inl z => some ((0, zsl z.2 95 z.1.toInt64))
set_option maxHeartbeats 4000000 in
set_option maxRecDepth 100000 in
theorem c_Law_set {l : Launch} (hst : l.stackTraces = false) {G : zLA} (hx : zxl G) (ho : (4, 95) ∈ zL G) {a0 : Int32} {a1 : Int32} {σ σ' : zSt} {r : Int32} (hf : F_Law_set a0 a1 σ = some (r, σ')) : zML l G y_Law_set (zwsW y_Law_set b_Law_set 5 (some .int) [(0, 10, 13, 18)]) rm_Law_set [.ref (zad G 4 70), .int a0, .int a1, .ref (zad G 4 95)] σ (some (.int r)) σ' := by
  refine z_ofML (own := "VillageWavesLaw") (lv := [(0, .ref (zad G 4 70)), (1, .int a0), (2, .int a1), (3, .ref (zad G 4 95))]) (by decide +kernel) rfl rfl (Nat.le_of_ble_eq_true rfl) (fun p e s m args below meth c C N T => ?_)
  rw [F_Law_set] at hf
  obtain ⟨q, h1, hf⟩ := bd_s hf
  refine z_aload_n C d_Law_set_0 3 rfl rfl ?_
  refine z_iconst C d_Law_set_1 zki_0 ?_
  refine z_aload_n C d_Law_set_2 0 rfl rfl ?_
  refine z_iload_n C d_Law_set_3 1 rfl rfl ?_
  refine z_iload_n C d_Law_set_4 2 rfl rfl ?_
  refine z_callXV C kl_Law_34 rfl (c_Waves_set hst hx h1) (zx4 hx 70 rfl) rfl rfl rfl (Nat.le_of_ble_eq_true rfl) ⟨(Nat.le_of_ble_eq_true rfl), (Nat.le_of_ble_eq_true rfl)⟩ ⟨(Nat.le_of_ble_eq_true rfl), (Nat.le_of_ble_eq_true rfl)⟩ d_Law_set_5 (fun E hE => ?_) (fun ov σ1 hE => ?_)
  · cases q with
    | inl z => cases hE
    | inr E0 =>
      cases hE
      by_cases e0 : E = "java/lang/IllegalArgumentException"
      · subst e0
        have hf := iff_t hf rfl
        cases hf
        refine z_catch C [] ⟨0, 10, 13, 18⟩ [] (T.trans rfl) (fun z hz => absurd hz List.not_mem_nil) (by decide +kernel) (by decide) zq840 zp850 (fun q => ?_)
        refine z_astore C d_Law_set_13 (by decide) ?_
        refine z_iconst C d_Law_set_15 zki_1 ?_
        exact z_iret C rfl (Nat.le_of_ble_eq_true rfl) (Nat.le_of_ble_eq_true rfl) d_Law_set_16
      · have hf := hf
        have hf := iff_f hf e0
        cases hf
  · cases q with
    | inr E0 => cases hE
    | inl z =>
      cases hE
      cases hf
      refine z_i2l C d_Law_set_8 ?_
      refine z_last0 C ho d_Law_set_9 ?_
      refine z_goto (tgt := 17) C d_Law_set_10 rfl ?_
      refine z_iconst C d_Law_set_17 zki_0 ?_
      exact z_iret C rfl (Nat.le_of_ble_eq_true rfl) (Nat.le_of_ble_eq_true rfl) d_Law_set_18
abbrev b_Law_seed : ByteArray := method_9_code
abbrev y_Law_seed : MethodName := ⟨"VillageWavesLaw", "seed", "(LVillageWaves;I)I"⟩
abbrev rm_Law_seed : Room := { frames := 8, cells := 1, slots := 6, locals := 135 }
theorem d_Law_seed_0 : decode b_Law_seed 0 = .ok (.aload_n 0, 1) := by decide +kernel
theorem d_Law_seed_1 : decode b_Law_seed 1 = .ok (.iload_n 1, 1) := by decide +kernel
theorem d_Law_seed_2 : decode b_Law_seed 2 = .ok (.invokevirtual 37, 3) := by decide +kernel
theorem d_Law_seed_5 : decode b_Law_seed 5 = .ok (.goto 6, 3) := by decide +kernel
theorem d_Law_seed_8 : decode b_Law_seed 8 = .ok (.astore_n 2, 1) := by decide +kernel
theorem d_Law_seed_9 : decode b_Law_seed 9 = .ok (.iconst 1, 1) := by decide +kernel
theorem d_Law_seed_10 : decode b_Law_seed 10 = .ok (.ireturn, 1) := by decide +kernel
theorem d_Law_seed_11 : decode b_Law_seed 11 = .ok (.iconst 0, 1) := by decide +kernel
theorem d_Law_seed_12 : decode b_Law_seed 12 = .ok (.ireturn, 1) := by decide +kernel
def F_Law_seed (a0 : Int32) (σ : zSt) : Option (Int32 × zSt) :=
  (F_Waves_seed a0 σ).bind fun q => match q with | .inr E => (if E = "java/lang/IllegalArgumentException" then some (1, σ) else none) | .inl z => some ((0, z))
set_option maxHeartbeats 4000000 in
set_option maxRecDepth 100000 in
theorem c_Law_seed {l : Launch} (hst : l.stackTraces = false) {G : zLA} (hx : zxl G) {a0 : Int32} {σ σ' : zSt} {r : Int32} (hf : F_Law_seed a0 σ = some (r, σ')) : zML l G y_Law_seed (zwsW y_Law_seed b_Law_seed 3 (some .int) [(0, 5, 8, 18)]) rm_Law_seed [.ref (zad G 4 70), .int a0] σ (some (.int r)) σ' := by
  refine z_ofML (own := "VillageWavesLaw") (lv := [(0, .ref (zad G 4 70)), (1, .int a0)]) (by decide +kernel) rfl rfl (Nat.le_of_ble_eq_true rfl) (fun p e s m args below meth c C N T => ?_)
  rw [F_Law_seed] at hf
  obtain ⟨q, h1, hf⟩ := bd_s hf
  refine z_aload_n C d_Law_seed_0 0 rfl rfl ?_
  refine z_iload_n C d_Law_seed_1 1 rfl rfl ?_
  refine z_callXV C kl_Law_37 rfl (c_Waves_seed hst hx h1) (zx4 hx 70 rfl) rfl rfl rfl (Nat.le_of_ble_eq_true rfl) ⟨(Nat.le_of_ble_eq_true rfl), (Nat.le_of_ble_eq_true rfl)⟩ ⟨(Nat.le_of_ble_eq_true rfl), (Nat.le_of_ble_eq_true rfl)⟩ d_Law_seed_2 (fun E hE => ?_) (fun ov σ1 hE => ?_)
  · cases q with
    | inl z => cases hE
    | inr E0 =>
      cases hE
      by_cases e0 : E = "java/lang/IllegalArgumentException"
      · subst e0
        have hf := iff_t hf rfl
        cases hf
        refine z_catch C [] ⟨0, 5, 8, 18⟩ [] (T.trans rfl) (fun z hz => absurd hz List.not_mem_nil) (by decide +kernel) (by decide) zq840 zp850 (fun q => ?_)
        refine z_astore_n C d_Law_seed_8 rfl (by decide) ?_
        refine z_iconst C d_Law_seed_9 zki_1 ?_
        exact z_iret C rfl (Nat.le_of_ble_eq_true rfl) (Nat.le_of_ble_eq_true rfl) d_Law_seed_10
      · have hf := hf
        have hf := iff_f hf e0
        cases hf
  · cases q with
    | inr E0 => cases hE
    | inl z =>
      cases hE
      cases hf
      refine z_goto (tgt := 11) C d_Law_seed_5 rfl ?_
      refine z_iconst C d_Law_seed_11 zki_0 ?_
      exact z_iret C rfl (Nat.le_of_ble_eq_true rfl) (Nat.le_of_ble_eq_true rfl) d_Law_seed_12
abbrev b_Law_count : ByteArray := method_10_code
abbrev y_Law_count : MethodName := ⟨"VillageWavesLaw", "count", "(LVillageWaves;I[J)I"⟩
abbrev rm_Law_count : Room := { frames := 8, cells := 1, slots := 6, locals := 135 }
theorem d_Law_count_0 : decode b_Law_count 0 = .ok (.aload_n 2, 1) := by decide +kernel
theorem d_Law_count_1 : decode b_Law_count 1 = .ok (.iconst 0, 1) := by decide +kernel
theorem d_Law_count_2 : decode b_Law_count 2 = .ok (.aload_n 0, 1) := by decide +kernel
theorem d_Law_count_3 : decode b_Law_count 3 = .ok (.iload_n 1, 1) := by decide +kernel
theorem d_Law_count_4 : decode b_Law_count 4 = .ok (.invokevirtual 41, 3) := by decide +kernel
theorem d_Law_count_7 : decode b_Law_count 7 = .ok (.i2l, 1) := by decide +kernel
theorem d_Law_count_8 : decode b_Law_count 8 = .ok (.lastore, 1) := by decide +kernel
theorem d_Law_count_9 : decode b_Law_count 9 = .ok (.goto 6, 3) := by decide +kernel
theorem d_Law_count_12 : decode b_Law_count 12 = .ok (.astore_n 3, 1) := by decide +kernel
theorem d_Law_count_13 : decode b_Law_count 13 = .ok (.iconst 1, 1) := by decide +kernel
theorem d_Law_count_14 : decode b_Law_count 14 = .ok (.ireturn, 1) := by decide +kernel
theorem d_Law_count_15 : decode b_Law_count 15 = .ok (.iconst 0, 1) := by decide +kernel
theorem d_Law_count_16 : decode b_Law_count 16 = .ok (.ireturn, 1) := by decide +kernel
def F_Law_count (a0 : Int32) (σ : zSt) : Option (Int32 × zSt) :=
  (F_Waves_count a0 σ).bind fun q => match q with | .inr E => (if E = "java/lang/IllegalArgumentException" then some (1, σ) else none) | .inl z => some ((0, zsl σ 95 z.toInt64))
set_option maxHeartbeats 4000000 in
set_option maxRecDepth 100000 in
theorem c_Law_count {l : Launch} (hst : l.stackTraces = false) {G : zLA} (hx : zxl G) (ho : (4, 95) ∈ zL G) {a0 : Int32} {σ σ' : zSt} {r : Int32} (hf : F_Law_count a0 σ = some (r, σ')) : zML l G y_Law_count (zwsW y_Law_count b_Law_count 4 (some .int) [(0, 9, 12, 18)]) rm_Law_count [.ref (zad G 4 70), .int a0, .ref (zad G 4 95)] σ (some (.int r)) σ' := by
  refine z_ofML (own := "VillageWavesLaw") (lv := [(0, .ref (zad G 4 70)), (1, .int a0), (2, .ref (zad G 4 95))]) (by decide +kernel) rfl rfl (Nat.le_of_ble_eq_true rfl) (fun p e s m args below meth c C N T => ?_)
  rw [F_Law_count] at hf
  obtain ⟨q, h1, hf⟩ := bd_s hf
  refine z_aload_n C d_Law_count_0 2 rfl rfl ?_
  refine z_iconst C d_Law_count_1 zki_0 ?_
  refine z_aload_n C d_Law_count_2 0 rfl rfl ?_
  refine z_iload_n C d_Law_count_3 1 rfl rfl ?_
  refine z_callXV C kl_Law_41 rfl (c_Waves_count hst hx h1) (zx4 hx 70 rfl) rfl rfl rfl (Nat.le_of_ble_eq_true rfl) ⟨(Nat.le_of_ble_eq_true rfl), (Nat.le_of_ble_eq_true rfl)⟩ ⟨(Nat.le_of_ble_eq_true rfl), (Nat.le_of_ble_eq_true rfl)⟩ d_Law_count_4 (fun E hE => ?_) (fun ov σ1 hE => ?_)
  · cases q with
    | inl z => cases hE
    | inr E0 =>
      cases hE
      by_cases e0 : E = "java/lang/IllegalArgumentException"
      · subst e0
        have hf := iff_t hf rfl
        cases hf
        refine z_catch C [] ⟨0, 9, 12, 18⟩ [] (T.trans rfl) (fun z hz => absurd hz List.not_mem_nil) (by decide +kernel) (by decide) zq840 zp850 (fun q => ?_)
        refine z_astore_n C d_Law_count_12 rfl (by decide) ?_
        refine z_iconst C d_Law_count_13 zki_1 ?_
        exact z_iret C rfl (Nat.le_of_ble_eq_true rfl) (Nat.le_of_ble_eq_true rfl) d_Law_count_14
      · have hf := hf
        have hf := iff_f hf e0
        cases hf
  · cases q with
    | inr E0 => cases hE
    | inl z =>
      cases hE
      cases hf
      refine z_i2l C d_Law_count_7 ?_
      refine z_last0 C ho d_Law_count_8 ?_
      refine z_goto (tgt := 15) C d_Law_count_9 rfl ?_
      refine z_iconst C d_Law_count_15 zki_0 ?_
      exact z_iret C rfl (Nat.le_of_ble_eq_true rfl) (Nat.le_of_ble_eq_true rfl) d_Law_count_16
abbrev b_Law_house : ByteArray := method_11_code
abbrev y_Law_house : MethodName := ⟨"VillageWavesLaw", "house", "(LVillageWaves;II[J)I"⟩
abbrev rm_Law_house : Room := { frames := 8, cells := 2, slots := 12, locals := 136 }
theorem d_Law_house_0 : decode b_Law_house 0 = .ok (.aload_n 3, 1) := by decide +kernel
theorem d_Law_house_1 : decode b_Law_house 1 = .ok (.iconst 0, 1) := by decide +kernel
theorem d_Law_house_2 : decode b_Law_house 2 = .ok (.aload_n 0, 1) := by decide +kernel
theorem d_Law_house_3 : decode b_Law_house 3 = .ok (.iload_n 1, 1) := by decide +kernel
theorem d_Law_house_4 : decode b_Law_house 4 = .ok (.iload_n 2, 1) := by decide +kernel
theorem d_Law_house_5 : decode b_Law_house 5 = .ok (.invokevirtual 44, 3) := by decide +kernel
theorem d_Law_house_8 : decode b_Law_house 8 = .ok (.i2l, 1) := by decide +kernel
theorem d_Law_house_9 : decode b_Law_house 9 = .ok (.lastore, 1) := by decide +kernel
theorem d_Law_house_10 : decode b_Law_house 10 = .ok (.goto 11, 3) := by decide +kernel
theorem d_Law_house_13 : decode b_Law_house 13 = .ok (.astore 4, 2) := by decide +kernel
theorem d_Law_house_15 : decode b_Law_house 15 = .ok (.iconst 1, 1) := by decide +kernel
theorem d_Law_house_16 : decode b_Law_house 16 = .ok (.ireturn, 1) := by decide +kernel
theorem d_Law_house_17 : decode b_Law_house 17 = .ok (.astore 4, 2) := by decide +kernel
theorem d_Law_house_19 : decode b_Law_house 19 = .ok (.iconst 2, 1) := by decide +kernel
theorem d_Law_house_20 : decode b_Law_house 20 = .ok (.ireturn, 1) := by decide +kernel
theorem d_Law_house_21 : decode b_Law_house 21 = .ok (.iconst 0, 1) := by decide +kernel
theorem d_Law_house_22 : decode b_Law_house 22 = .ok (.ireturn, 1) := by decide +kernel
def F_Law_house (a0 : Int32) (a1 : Int32) (σ : zSt) : Option (Int32 × zSt) :=
  (F_Waves_house a0 a1 σ).bind fun q => match q with | .inr E => (if E = "java/lang/IndexOutOfBoundsException" then some (1, σ) else (if E = "java/lang/IllegalArgumentException" then some (2, σ) else none)) | .inl z => some ((0, zsl σ 95 z.toInt64))
set_option maxHeartbeats 4000000 in
set_option maxRecDepth 100000 in
theorem c_Law_house {l : Launch} (hst : l.stackTraces = false) {G : zLA} (hx : zxl G) (ho : (4, 95) ∈ zL G) {a0 : Int32} {a1 : Int32} {σ σ' : zSt} {r : Int32} (hf : F_Law_house a0 a1 σ = some (r, σ')) : zML l G y_Law_house (zwsW y_Law_house b_Law_house 5 (some .int) [(0, 10, 13, 28), (0, 10, 17, 18)]) rm_Law_house [.ref (zad G 4 70), .int a0, .int a1, .ref (zad G 4 95)] σ (some (.int r)) σ' := by
  refine z_ofML (own := "VillageWavesLaw") (lv := [(0, .ref (zad G 4 70)), (1, .int a0), (2, .int a1), (3, .ref (zad G 4 95))]) (by decide +kernel) rfl rfl (Nat.le_of_ble_eq_true rfl) (fun p e s m args below meth c C N T => ?_)
  rw [F_Law_house] at hf
  obtain ⟨q, h1, hf⟩ := bd_s hf
  refine z_aload_n C d_Law_house_0 3 rfl rfl ?_
  refine z_iconst C d_Law_house_1 zki_0 ?_
  refine z_aload_n C d_Law_house_2 0 rfl rfl ?_
  refine z_iload_n C d_Law_house_3 1 rfl rfl ?_
  refine z_iload_n C d_Law_house_4 2 rfl rfl ?_
  refine z_callXV C kl_Law_44 rfl (c_Waves_house hst hx h1) (zx4 hx 70 rfl) rfl rfl rfl (Nat.le_of_ble_eq_true rfl) ⟨(Nat.le_of_ble_eq_true rfl), (Nat.le_of_ble_eq_true rfl)⟩ ⟨(Nat.le_of_ble_eq_true rfl), (Nat.le_of_ble_eq_true rfl)⟩ d_Law_house_5 (fun E hE => ?_) (fun ov σ1 hE => ?_)
  · cases q with
    | inl z => cases hE
    | inr E0 =>
      cases hE
      by_cases e0 : E = "java/lang/IndexOutOfBoundsException"
      · subst e0
        have hf := iff_t hf rfl
        cases hf
        refine z_catch C [] ⟨0, 10, 13, 28⟩ [⟨0, 10, 17, 18⟩] (T.trans rfl) (fun z hz => absurd hz List.not_mem_nil) (by decide +kernel) (by decide) zq877 zp888 (fun q => ?_)
        refine z_astore C d_Law_house_13 (by decide) ?_
        refine z_iconst C d_Law_house_15 zki_1 ?_
        exact z_iret C rfl (Nat.le_of_ble_eq_true rfl) (Nat.le_of_ble_eq_true rfl) d_Law_house_16
      · have hf := hf
        by_cases e1 : E = "java/lang/IllegalArgumentException"
        · subst e1
          have hf := iff_f hf (by decide)
          have hf := iff_t hf rfl
          cases hf
          refine z_catch C [⟨0, 10, 13, 28⟩] ⟨0, 10, 17, 18⟩ [] (T.trans rfl) (fun z hz => by rw [List.mem_singleton.mp hz]; exact Or.inr ⟨by decide, "java/lang/IndexOutOfBoundsException", zq877, N.2⟩) (by decide +kernel) (by decide) zq840 zp850 (fun q => ?_)
          refine z_astore C d_Law_house_17 (by decide) ?_
          refine z_iconst C d_Law_house_19 zki_2 ?_
          exact z_iret C rfl (Nat.le_of_ble_eq_true rfl) (Nat.le_of_ble_eq_true rfl) d_Law_house_20
        · have hf := hf
          have hf := iff_f hf e0
          have hf := iff_f hf e1
          cases hf
  · cases q with
    | inr E0 => cases hE
    | inl z =>
      cases hE
      cases hf
      refine z_i2l C d_Law_house_8 ?_
      refine z_last0 C ho d_Law_house_9 ?_
      refine z_goto (tgt := 21) C d_Law_house_10 rfl ?_
      refine z_iconst C d_Law_house_21 zki_0 ?_
      exact z_iret C rfl (Nat.le_of_ble_eq_true rfl) (Nat.le_of_ble_eq_true rfl) d_Law_house_22
abbrev b_Law_entry : ByteArray := method_12_code
abbrev y_Law_entry : MethodName := ⟨"VillageWavesLaw", "entry", "(LVillageWaves;III[J)I"⟩
abbrev rm_Law_entry : Room := { frames := 8, cells := 3, slots := 18, locals := 139 }
theorem d_Law_entry_0 : decode b_Law_entry 0 = .ok (.aload 4, 2) := by decide +kernel
theorem d_Law_entry_2 : decode b_Law_entry 2 = .ok (.iconst 0, 1) := by decide +kernel
theorem d_Law_entry_3 : decode b_Law_entry 3 = .ok (.aload_n 0, 1) := by decide +kernel
theorem d_Law_entry_4 : decode b_Law_entry 4 = .ok (.iload_n 1, 1) := by decide +kernel
theorem d_Law_entry_5 : decode b_Law_entry 5 = .ok (.iload_n 2, 1) := by decide +kernel
theorem d_Law_entry_6 : decode b_Law_entry 6 = .ok (.iload_n 3, 1) := by decide +kernel
theorem d_Law_entry_7 : decode b_Law_entry 7 = .ok (.invokevirtual 47, 3) := by decide +kernel
theorem d_Law_entry_10 : decode b_Law_entry 10 = .ok (.i2l, 1) := by decide +kernel
theorem d_Law_entry_11 : decode b_Law_entry 11 = .ok (.lastore, 1) := by decide +kernel
theorem d_Law_entry_12 : decode b_Law_entry 12 = .ok (.goto 11, 3) := by decide +kernel
theorem d_Law_entry_15 : decode b_Law_entry 15 = .ok (.astore 5, 2) := by decide +kernel
theorem d_Law_entry_17 : decode b_Law_entry 17 = .ok (.iconst 1, 1) := by decide +kernel
theorem d_Law_entry_18 : decode b_Law_entry 18 = .ok (.ireturn, 1) := by decide +kernel
theorem d_Law_entry_19 : decode b_Law_entry 19 = .ok (.astore 5, 2) := by decide +kernel
theorem d_Law_entry_21 : decode b_Law_entry 21 = .ok (.iconst 2, 1) := by decide +kernel
theorem d_Law_entry_22 : decode b_Law_entry 22 = .ok (.ireturn, 1) := by decide +kernel
theorem d_Law_entry_23 : decode b_Law_entry 23 = .ok (.iconst 0, 1) := by decide +kernel
theorem d_Law_entry_24 : decode b_Law_entry 24 = .ok (.ireturn, 1) := by decide +kernel
def F_Law_entry (a0 : Int32) (a1 : Int32) (a2 : Int32) (σ : zSt) : Option (Int32 × zSt) :=
  (F_Waves_entry a0 a1 a2 σ).bind fun q => match q with | .inr E => (if E = "java/lang/IndexOutOfBoundsException" then some (1, σ) else (if E = "java/lang/IllegalArgumentException" then some (2, σ) else none)) | .inl z => some ((0, zsl σ 95 z.toInt64))
set_option maxHeartbeats 4000000 in
set_option maxRecDepth 100000 in
theorem c_Law_entry {l : Launch} (hst : l.stackTraces = false) {G : zLA} (hx : zxl G) (ho : (4, 95) ∈ zL G) {a0 : Int32} {a1 : Int32} {a2 : Int32} {σ σ' : zSt} {r : Int32} (hf : F_Law_entry a0 a1 a2 σ = some (r, σ')) : zML l G y_Law_entry (zwsW y_Law_entry b_Law_entry 6 (some .int) [(0, 12, 15, 28), (0, 12, 19, 18)]) rm_Law_entry [.ref (zad G 4 70), .int a0, .int a1, .int a2, .ref (zad G 4 95)] σ (some (.int r)) σ' := by
  refine z_ofML (own := "VillageWavesLaw") (lv := [(0, .ref (zad G 4 70)), (1, .int a0), (2, .int a1), (3, .int a2), (4, .ref (zad G 4 95))]) (by decide +kernel) rfl rfl (Nat.le_of_ble_eq_true rfl) (fun p e s m args below meth c C N T => ?_)
  rw [F_Law_entry] at hf
  obtain ⟨q, h1, hf⟩ := bd_s hf
  refine z_aload C d_Law_entry_0 4 rfl ?_
  refine z_iconst C d_Law_entry_2 zki_0 ?_
  refine z_aload_n C d_Law_entry_3 0 rfl rfl ?_
  refine z_iload_n C d_Law_entry_4 1 rfl rfl ?_
  refine z_iload_n C d_Law_entry_5 2 rfl rfl ?_
  refine z_iload_n C d_Law_entry_6 3 rfl rfl ?_
  refine z_callXV C kl_Law_47 rfl (c_Waves_entry hst hx h1) (zx4 hx 70 rfl) rfl rfl rfl (Nat.le_of_ble_eq_true rfl) ⟨(Nat.le_of_ble_eq_true rfl), (Nat.le_of_ble_eq_true rfl)⟩ ⟨(Nat.le_of_ble_eq_true rfl), (Nat.le_of_ble_eq_true rfl)⟩ d_Law_entry_7 (fun E hE => ?_) (fun ov σ1 hE => ?_)
  · cases q with
    | inl z => cases hE
    | inr E0 =>
      cases hE
      by_cases e0 : E = "java/lang/IndexOutOfBoundsException"
      · subst e0
        have hf := iff_t hf rfl
        cases hf
        refine z_catch C [] ⟨0, 12, 15, 28⟩ [⟨0, 12, 19, 18⟩] (T.trans rfl) (fun z hz => absurd hz List.not_mem_nil) (by decide +kernel) (by decide) zq877 zp888 (fun q => ?_)
        refine z_astore C d_Law_entry_15 (by decide) ?_
        refine z_iconst C d_Law_entry_17 zki_1 ?_
        exact z_iret C rfl (Nat.le_of_ble_eq_true rfl) (Nat.le_of_ble_eq_true rfl) d_Law_entry_18
      · have hf := hf
        by_cases e1 : E = "java/lang/IllegalArgumentException"
        · subst e1
          have hf := iff_f hf (by decide)
          have hf := iff_t hf rfl
          cases hf
          refine z_catch C [⟨0, 12, 15, 28⟩] ⟨0, 12, 19, 18⟩ [] (T.trans rfl) (fun z hz => by rw [List.mem_singleton.mp hz]; exact Or.inr ⟨by decide, "java/lang/IndexOutOfBoundsException", zq877, N.2⟩) (by decide +kernel) (by decide) zq840 zp850 (fun q => ?_)
          refine z_astore C d_Law_entry_19 (by decide) ?_
          refine z_iconst C d_Law_entry_21 zki_2 ?_
          exact z_iret C rfl (Nat.le_of_ble_eq_true rfl) (Nat.le_of_ble_eq_true rfl) d_Law_entry_22
        · have hf := hf
          have hf := iff_f hf e0
          have hf := iff_f hf e1
          cases hf
  · cases q with
    | inr E0 => cases hE
    | inl z =>
      cases hE
      cases hf
      refine z_i2l C d_Law_entry_10 ?_
      refine z_last0 C ho d_Law_entry_11 ?_
      refine z_goto (tgt := 23) C d_Law_entry_12 rfl ?_
      refine z_iconst C d_Law_entry_23 zki_0 ?_
      exact z_iret C rfl (Nat.le_of_ble_eq_true rfl) (Nat.le_of_ble_eq_true rfl) d_Law_entry_24
abbrev b_Law_news : ByteArray := method_13_code
abbrev y_Law_news : MethodName := ⟨"VillageWavesLaw", "news", "(LVillageWaves;II[J)I"⟩
abbrev rm_Law_news : Room := { frames := 8, cells := 2, slots := 12, locals := 136 }
theorem d_Law_news_0 : decode b_Law_news 0 = .ok (.aload_n 3, 1) := by decide +kernel
theorem d_Law_news_1 : decode b_Law_news 1 = .ok (.iconst 0, 1) := by decide +kernel
theorem d_Law_news_2 : decode b_Law_news 2 = .ok (.aload_n 0, 1) := by decide +kernel
theorem d_Law_news_3 : decode b_Law_news 3 = .ok (.iload_n 1, 1) := by decide +kernel
theorem d_Law_news_4 : decode b_Law_news 4 = .ok (.iload_n 2, 1) := by decide +kernel
theorem d_Law_news_5 : decode b_Law_news 5 = .ok (.invokevirtual 51, 3) := by decide +kernel
theorem d_Law_news_8 : decode b_Law_news 8 = .ok (.i2l, 1) := by decide +kernel
theorem d_Law_news_9 : decode b_Law_news 9 = .ok (.lastore, 1) := by decide +kernel
theorem d_Law_news_10 : decode b_Law_news 10 = .ok (.goto 11, 3) := by decide +kernel
theorem d_Law_news_13 : decode b_Law_news 13 = .ok (.astore 4, 2) := by decide +kernel
theorem d_Law_news_15 : decode b_Law_news 15 = .ok (.iconst 1, 1) := by decide +kernel
theorem d_Law_news_16 : decode b_Law_news 16 = .ok (.ireturn, 1) := by decide +kernel
theorem d_Law_news_17 : decode b_Law_news 17 = .ok (.astore 4, 2) := by decide +kernel
theorem d_Law_news_19 : decode b_Law_news 19 = .ok (.iconst 2, 1) := by decide +kernel
theorem d_Law_news_20 : decode b_Law_news 20 = .ok (.ireturn, 1) := by decide +kernel
theorem d_Law_news_21 : decode b_Law_news 21 = .ok (.iconst 0, 1) := by decide +kernel
theorem d_Law_news_22 : decode b_Law_news 22 = .ok (.ireturn, 1) := by decide +kernel
def F_Law_news (a0 : Int32) (a1 : Int32) (σ : zSt) : Option (Int32 × zSt) :=
  (F_Waves_news a0 a1 σ).bind fun q => match q with | .inr E => (if E = "java/lang/IndexOutOfBoundsException" then some (1, σ) else (if E = "java/lang/IllegalArgumentException" then some (2, σ) else none)) | .inl z => some ((0, zsl σ 95 z.toInt64))
set_option maxHeartbeats 4000000 in
set_option maxRecDepth 100000 in
theorem c_Law_news {l : Launch} (hst : l.stackTraces = false) {G : zLA} (hx : zxl G) (ho : (4, 95) ∈ zL G) {a0 : Int32} {a1 : Int32} {σ σ' : zSt} {r : Int32} (hf : F_Law_news a0 a1 σ = some (r, σ')) : zML l G y_Law_news (zwsW y_Law_news b_Law_news 5 (some .int) [(0, 10, 13, 28), (0, 10, 17, 18)]) rm_Law_news [.ref (zad G 4 70), .int a0, .int a1, .ref (zad G 4 95)] σ (some (.int r)) σ' := by
  refine z_ofML (own := "VillageWavesLaw") (lv := [(0, .ref (zad G 4 70)), (1, .int a0), (2, .int a1), (3, .ref (zad G 4 95))]) (by decide +kernel) rfl rfl (Nat.le_of_ble_eq_true rfl) (fun p e s m args below meth c C N T => ?_)
  rw [F_Law_news] at hf
  obtain ⟨q, h1, hf⟩ := bd_s hf
  refine z_aload_n C d_Law_news_0 3 rfl rfl ?_
  refine z_iconst C d_Law_news_1 zki_0 ?_
  refine z_aload_n C d_Law_news_2 0 rfl rfl ?_
  refine z_iload_n C d_Law_news_3 1 rfl rfl ?_
  refine z_iload_n C d_Law_news_4 2 rfl rfl ?_
  refine z_callXV C kl_Law_51 rfl (c_Waves_news hst hx h1) (zx4 hx 70 rfl) rfl rfl rfl (Nat.le_of_ble_eq_true rfl) ⟨(Nat.le_of_ble_eq_true rfl), (Nat.le_of_ble_eq_true rfl)⟩ ⟨(Nat.le_of_ble_eq_true rfl), (Nat.le_of_ble_eq_true rfl)⟩ d_Law_news_5 (fun E hE => ?_) (fun ov σ1 hE => ?_)
  · cases q with
    | inl z => cases hE
    | inr E0 =>
      cases hE
      by_cases e0 : E = "java/lang/IndexOutOfBoundsException"
      · subst e0
        have hf := iff_t hf rfl
        cases hf
        refine z_catch C [] ⟨0, 10, 13, 28⟩ [⟨0, 10, 17, 18⟩] (T.trans rfl) (fun z hz => absurd hz List.not_mem_nil) (by decide +kernel) (by decide) zq877 zp888 (fun q => ?_)
        refine z_astore C d_Law_news_13 (by decide) ?_
        refine z_iconst C d_Law_news_15 zki_1 ?_
        exact z_iret C rfl (Nat.le_of_ble_eq_true rfl) (Nat.le_of_ble_eq_true rfl) d_Law_news_16
      · have hf := hf
        by_cases e1 : E = "java/lang/IllegalArgumentException"
        · subst e1
          have hf := iff_f hf (by decide)
          have hf := iff_t hf rfl
          cases hf
          refine z_catch C [⟨0, 10, 13, 28⟩] ⟨0, 10, 17, 18⟩ [] (T.trans rfl) (fun z hz => by rw [List.mem_singleton.mp hz]; exact Or.inr ⟨by decide, "java/lang/IndexOutOfBoundsException", zq877, N.2⟩) (by decide +kernel) (by decide) zq840 zp850 (fun q => ?_)
          refine z_astore C d_Law_news_17 (by decide) ?_
          refine z_iconst C d_Law_news_19 zki_2 ?_
          exact z_iret C rfl (Nat.le_of_ble_eq_true rfl) (Nat.le_of_ble_eq_true rfl) d_Law_news_20
        · have hf := hf
          have hf := iff_f hf e0
          have hf := iff_f hf e1
          cases hf
  · cases q with
    | inr E0 => cases hE
    | inl z =>
      cases hE
      cases hf
      refine z_i2l C d_Law_news_8 ?_
      refine z_last0 C ho d_Law_news_9 ?_
      refine z_goto (tgt := 21) C d_Law_news_10 rfl ?_
      refine z_iconst C d_Law_news_21 zki_0 ?_
      exact z_iret C rfl (Nat.le_of_ble_eq_true rfl) (Nat.le_of_ble_eq_true rfl) d_Law_news_22
abbrev b_Law_source : ByteArray := method_14_code
abbrev y_Law_source : MethodName := ⟨"VillageWavesLaw", "source", "(LVillageWaves;II[J)I"⟩
abbrev rm_Law_source : Room := { frames := 8, cells := 2, slots := 12, locals := 135 }
theorem d_Law_source_0 : decode b_Law_source 0 = .ok (.aload_n 3, 1) := by decide +kernel
theorem d_Law_source_1 : decode b_Law_source 1 = .ok (.iconst 0, 1) := by decide +kernel
theorem d_Law_source_2 : decode b_Law_source 2 = .ok (.aload_n 0, 1) := by decide +kernel
theorem d_Law_source_3 : decode b_Law_source 3 = .ok (.iload_n 1, 1) := by decide +kernel
theorem d_Law_source_4 : decode b_Law_source 4 = .ok (.iload_n 2, 1) := by decide +kernel
theorem d_Law_source_5 : decode b_Law_source 5 = .ok (.invokevirtual 54, 3) := by decide +kernel
theorem d_Law_source_8 : decode b_Law_source 8 = .ok (.i2l, 1) := by decide +kernel
theorem d_Law_source_9 : decode b_Law_source 9 = .ok (.lastore, 1) := by decide +kernel
theorem d_Law_source_10 : decode b_Law_source 10 = .ok (.goto 7, 3) := by decide +kernel
theorem d_Law_source_13 : decode b_Law_source 13 = .ok (.astore 4, 2) := by decide +kernel
theorem d_Law_source_15 : decode b_Law_source 15 = .ok (.iconst 1, 1) := by decide +kernel
theorem d_Law_source_16 : decode b_Law_source 16 = .ok (.ireturn, 1) := by decide +kernel
theorem d_Law_source_17 : decode b_Law_source 17 = .ok (.iconst 0, 1) := by decide +kernel
theorem d_Law_source_18 : decode b_Law_source 18 = .ok (.ireturn, 1) := by decide +kernel
def F_Law_source (a0 : Int32) (a1 : Int32) (σ : zSt) : Option (Int32 × zSt) :=
  (F_Waves_source a0 a1 σ).bind fun q => match q with | .inr E => (if E = "java/lang/IndexOutOfBoundsException" then some (1, σ) else none) | .inl z => some ((0, zsl σ 95 z.toInt64))
set_option maxHeartbeats 4000000 in
set_option maxRecDepth 100000 in
theorem c_Law_source {l : Launch} (hst : l.stackTraces = false) {G : zLA} (hx : zxl G) (ho : (4, 95) ∈ zL G) {a0 : Int32} {a1 : Int32} {σ σ' : zSt} {r : Int32} (hf : F_Law_source a0 a1 σ = some (r, σ')) : zML l G y_Law_source (zwsW y_Law_source b_Law_source 5 (some .int) [(0, 10, 13, 28)]) rm_Law_source [.ref (zad G 4 70), .int a0, .int a1, .ref (zad G 4 95)] σ (some (.int r)) σ' := by
  refine z_ofML (own := "VillageWavesLaw") (lv := [(0, .ref (zad G 4 70)), (1, .int a0), (2, .int a1), (3, .ref (zad G 4 95))]) (by decide +kernel) rfl rfl (Nat.le_of_ble_eq_true rfl) (fun p e s m args below meth c C N T => ?_)
  rw [F_Law_source] at hf
  obtain ⟨q, h1, hf⟩ := bd_s hf
  refine z_aload_n C d_Law_source_0 3 rfl rfl ?_
  refine z_iconst C d_Law_source_1 zki_0 ?_
  refine z_aload_n C d_Law_source_2 0 rfl rfl ?_
  refine z_iload_n C d_Law_source_3 1 rfl rfl ?_
  refine z_iload_n C d_Law_source_4 2 rfl rfl ?_
  refine z_callXV C kl_Law_54 rfl (c_Waves_source hst hx h1) (zx4 hx 70 rfl) rfl rfl rfl (Nat.le_of_ble_eq_true rfl) ⟨(Nat.le_of_ble_eq_true rfl), (Nat.le_of_ble_eq_true rfl)⟩ ⟨(Nat.le_of_ble_eq_true rfl), (Nat.le_of_ble_eq_true rfl)⟩ d_Law_source_5 (fun E hE => ?_) (fun ov σ1 hE => ?_)
  · cases q with
    | inl z => cases hE
    | inr E0 =>
      cases hE
      by_cases e0 : E = "java/lang/IndexOutOfBoundsException"
      · subst e0
        have hf := iff_t hf rfl
        cases hf
        refine z_catch C [] ⟨0, 10, 13, 28⟩ [] (T.trans rfl) (fun z hz => absurd hz List.not_mem_nil) (by decide +kernel) (by decide) zq877 zp888 (fun q => ?_)
        refine z_astore C d_Law_source_13 (by decide) ?_
        refine z_iconst C d_Law_source_15 zki_1 ?_
        exact z_iret C rfl (Nat.le_of_ble_eq_true rfl) (Nat.le_of_ble_eq_true rfl) d_Law_source_16
      · have hf := hf
        have hf := iff_f hf e0
        cases hf
  · cases q with
    | inr E0 => cases hE
    | inl z =>
      cases hE
      cases hf
      refine z_i2l C d_Law_source_8 ?_
      refine z_last0 C ho d_Law_source_9 ?_
      refine z_goto (tgt := 17) C d_Law_source_10 rfl ?_
      refine z_iconst C d_Law_source_17 zki_0 ?_
      exact z_iret C rfl (Nat.le_of_ble_eq_true rfl) (Nat.le_of_ble_eq_true rfl) d_Law_source_18
abbrev b_Law_owes : ByteArray := method_15_code
abbrev y_Law_owes : MethodName := ⟨"VillageWavesLaw", "owes", "(LVillageWaves;II[J)I"⟩
abbrev rm_Law_owes : Room := { frames := 8, cells := 2, slots := 12, locals := 135 }
theorem d_Law_owes_0 : decode b_Law_owes 0 = .ok (.aload_n 3, 1) := by decide +kernel
theorem d_Law_owes_1 : decode b_Law_owes 1 = .ok (.iconst 0, 1) := by decide +kernel
theorem d_Law_owes_2 : decode b_Law_owes 2 = .ok (.aload_n 0, 1) := by decide +kernel
theorem d_Law_owes_3 : decode b_Law_owes 3 = .ok (.iload_n 1, 1) := by decide +kernel
theorem d_Law_owes_4 : decode b_Law_owes 4 = .ok (.iload_n 2, 1) := by decide +kernel
theorem d_Law_owes_5 : decode b_Law_owes 5 = .ok (.invokevirtual 57, 3) := by decide +kernel
theorem d_Law_owes_8 : decode b_Law_owes 8 = .ok (.i2l, 1) := by decide +kernel
theorem d_Law_owes_9 : decode b_Law_owes 9 = .ok (.lastore, 1) := by decide +kernel
theorem d_Law_owes_10 : decode b_Law_owes 10 = .ok (.goto 7, 3) := by decide +kernel
theorem d_Law_owes_13 : decode b_Law_owes 13 = .ok (.astore 4, 2) := by decide +kernel
theorem d_Law_owes_15 : decode b_Law_owes 15 = .ok (.iconst 1, 1) := by decide +kernel
theorem d_Law_owes_16 : decode b_Law_owes 16 = .ok (.ireturn, 1) := by decide +kernel
theorem d_Law_owes_17 : decode b_Law_owes 17 = .ok (.iconst 0, 1) := by decide +kernel
theorem d_Law_owes_18 : decode b_Law_owes 18 = .ok (.ireturn, 1) := by decide +kernel
def F_Law_owes (a0 : Int32) (a1 : Int32) (σ : zSt) : Option (Int32 × zSt) :=
  (F_Waves_owes a0 a1 σ).bind fun q => match q with | .inr E => (if E = "java/lang/IndexOutOfBoundsException" then some (1, σ) else none) | .inl z => some ((0, zsl σ 95 z.toInt64))
set_option maxHeartbeats 4000000 in
set_option maxRecDepth 100000 in
theorem c_Law_owes {l : Launch} (hst : l.stackTraces = false) {G : zLA} (hx : zxl G) (ho : (4, 95) ∈ zL G) {a0 : Int32} {a1 : Int32} {σ σ' : zSt} {r : Int32} (hf : F_Law_owes a0 a1 σ = some (r, σ')) : zML l G y_Law_owes (zwsW y_Law_owes b_Law_owes 5 (some .int) [(0, 10, 13, 28)]) rm_Law_owes [.ref (zad G 4 70), .int a0, .int a1, .ref (zad G 4 95)] σ (some (.int r)) σ' := by
  refine z_ofML (own := "VillageWavesLaw") (lv := [(0, .ref (zad G 4 70)), (1, .int a0), (2, .int a1), (3, .ref (zad G 4 95))]) (by decide +kernel) rfl rfl (Nat.le_of_ble_eq_true rfl) (fun p e s m args below meth c C N T => ?_)
  rw [F_Law_owes] at hf
  obtain ⟨q, h1, hf⟩ := bd_s hf
  refine z_aload_n C d_Law_owes_0 3 rfl rfl ?_
  refine z_iconst C d_Law_owes_1 zki_0 ?_
  refine z_aload_n C d_Law_owes_2 0 rfl rfl ?_
  refine z_iload_n C d_Law_owes_3 1 rfl rfl ?_
  refine z_iload_n C d_Law_owes_4 2 rfl rfl ?_
  refine z_callXV C kl_Law_57 rfl (c_Waves_owes hst hx h1) (zx4 hx 70 rfl) rfl rfl rfl (Nat.le_of_ble_eq_true rfl) ⟨(Nat.le_of_ble_eq_true rfl), (Nat.le_of_ble_eq_true rfl)⟩ ⟨(Nat.le_of_ble_eq_true rfl), (Nat.le_of_ble_eq_true rfl)⟩ d_Law_owes_5 (fun E hE => ?_) (fun ov σ1 hE => ?_)
  · cases q with
    | inl z => cases hE
    | inr E0 =>
      cases hE
      by_cases e0 : E = "java/lang/IndexOutOfBoundsException"
      · subst e0
        have hf := iff_t hf rfl
        cases hf
        refine z_catch C [] ⟨0, 10, 13, 28⟩ [] (T.trans rfl) (fun z hz => absurd hz List.not_mem_nil) (by decide +kernel) (by decide) zq877 zp888 (fun q => ?_)
        refine z_astore C d_Law_owes_13 (by decide) ?_
        refine z_iconst C d_Law_owes_15 zki_1 ?_
        exact z_iret C rfl (Nat.le_of_ble_eq_true rfl) (Nat.le_of_ble_eq_true rfl) d_Law_owes_16
      · have hf := hf
        have hf := iff_f hf e0
        cases hf
  · cases q with
    | inr E0 => cases hE
    | inl z =>
      cases hE
      cases hf
      refine z_i2l C d_Law_owes_8 ?_
      refine z_last0 C ho d_Law_owes_9 ?_
      refine z_goto (tgt := 17) C d_Law_owes_10 rfl ?_
      refine z_iconst C d_Law_owes_17 zki_0 ?_
      exact z_iret C rfl (Nat.le_of_ble_eq_true rfl) (Nat.le_of_ble_eq_true rfl) d_Law_owes_18
abbrev b_Law_spoken : ByteArray := method_16_code
abbrev y_Law_spoken : MethodName := ⟨"VillageWavesLaw", "spoken", "(LVillageWaves;II[J)I"⟩
abbrev rm_Law_spoken : Room := { frames := 8, cells := 2, slots := 12, locals := 136 }
theorem d_Law_spoken_0 : decode b_Law_spoken 0 = .ok (.aload_n 3, 1) := by decide +kernel
theorem d_Law_spoken_1 : decode b_Law_spoken 1 = .ok (.iconst 0, 1) := by decide +kernel
theorem d_Law_spoken_2 : decode b_Law_spoken 2 = .ok (.aload_n 0, 1) := by decide +kernel
theorem d_Law_spoken_3 : decode b_Law_spoken 3 = .ok (.iload_n 1, 1) := by decide +kernel
theorem d_Law_spoken_4 : decode b_Law_spoken 4 = .ok (.iload_n 2, 1) := by decide +kernel
theorem d_Law_spoken_5 : decode b_Law_spoken 5 = .ok (.invokevirtual 60, 3) := by decide +kernel
theorem d_Law_spoken_8 : decode b_Law_spoken 8 = .ok (.i2l, 1) := by decide +kernel
theorem d_Law_spoken_9 : decode b_Law_spoken 9 = .ok (.lastore, 1) := by decide +kernel
theorem d_Law_spoken_10 : decode b_Law_spoken 10 = .ok (.goto 7, 3) := by decide +kernel
theorem d_Law_spoken_13 : decode b_Law_spoken 13 = .ok (.astore 4, 2) := by decide +kernel
theorem d_Law_spoken_15 : decode b_Law_spoken 15 = .ok (.iconst 1, 1) := by decide +kernel
theorem d_Law_spoken_16 : decode b_Law_spoken 16 = .ok (.ireturn, 1) := by decide +kernel
theorem d_Law_spoken_17 : decode b_Law_spoken 17 = .ok (.iconst 0, 1) := by decide +kernel
theorem d_Law_spoken_18 : decode b_Law_spoken 18 = .ok (.ireturn, 1) := by decide +kernel
def F_Law_spoken (a0 : Int32) (a1 : Int32) (σ : zSt) : Option (Int32 × zSt) :=
  (F_Waves_spoken a0 a1 σ).bind fun q => match q with | .inr E => (if E = "java/lang/IllegalArgumentException" then some (1, σ) else none) | .inl z => some ((0, zsl σ 95 z.toInt64))
set_option maxHeartbeats 4000000 in
set_option maxRecDepth 100000 in
theorem c_Law_spoken {l : Launch} (hst : l.stackTraces = false) {G : zLA} (hx : zxl G) (ho : (4, 95) ∈ zL G) {a0 : Int32} {a1 : Int32} {σ σ' : zSt} {r : Int32} (hf : F_Law_spoken a0 a1 σ = some (r, σ')) : zML l G y_Law_spoken (zwsW y_Law_spoken b_Law_spoken 5 (some .int) [(0, 10, 13, 18)]) rm_Law_spoken [.ref (zad G 4 70), .int a0, .int a1, .ref (zad G 4 95)] σ (some (.int r)) σ' := by
  refine z_ofML (own := "VillageWavesLaw") (lv := [(0, .ref (zad G 4 70)), (1, .int a0), (2, .int a1), (3, .ref (zad G 4 95))]) (by decide +kernel) rfl rfl (Nat.le_of_ble_eq_true rfl) (fun p e s m args below meth c C N T => ?_)
  rw [F_Law_spoken] at hf
  obtain ⟨q, h1, hf⟩ := bd_s hf
  refine z_aload_n C d_Law_spoken_0 3 rfl rfl ?_
  refine z_iconst C d_Law_spoken_1 zki_0 ?_
  refine z_aload_n C d_Law_spoken_2 0 rfl rfl ?_
  refine z_iload_n C d_Law_spoken_3 1 rfl rfl ?_
  refine z_iload_n C d_Law_spoken_4 2 rfl rfl ?_
  refine z_callXV C kl_Law_60 rfl (c_Waves_spoken hst hx h1) (zx4 hx 70 rfl) rfl rfl rfl (Nat.le_of_ble_eq_true rfl) ⟨(Nat.le_of_ble_eq_true rfl), (Nat.le_of_ble_eq_true rfl)⟩ ⟨(Nat.le_of_ble_eq_true rfl), (Nat.le_of_ble_eq_true rfl)⟩ d_Law_spoken_5 (fun E hE => ?_) (fun ov σ1 hE => ?_)
  · cases q with
    | inl z => cases hE
    | inr E0 =>
      cases hE
      by_cases e0 : E = "java/lang/IllegalArgumentException"
      · subst e0
        have hf := iff_t hf rfl
        cases hf
        refine z_catch C [] ⟨0, 10, 13, 18⟩ [] (T.trans rfl) (fun z hz => absurd hz List.not_mem_nil) (by decide +kernel) (by decide) zq840 zp850 (fun q => ?_)
        refine z_astore C d_Law_spoken_13 (by decide) ?_
        refine z_iconst C d_Law_spoken_15 zki_1 ?_
        exact z_iret C rfl (Nat.le_of_ble_eq_true rfl) (Nat.le_of_ble_eq_true rfl) d_Law_spoken_16
      · have hf := hf
        have hf := iff_f hf e0
        cases hf
  · cases q with
    | inr E0 => cases hE
    | inl z =>
      cases hE
      cases hf
      refine z_i2l C d_Law_spoken_8 ?_
      refine z_last0 C ho d_Law_spoken_9 ?_
      refine z_goto (tgt := 17) C d_Law_spoken_10 rfl ?_
      refine z_iconst C d_Law_spoken_17 zki_0 ?_
      exact z_iret C rfl (Nat.le_of_ble_eq_true rfl) (Nat.le_of_ble_eq_true rfl) d_Law_spoken_18
abbrev b_Law_tell : ByteArray := method_17_code
abbrev y_Law_tell : MethodName := ⟨"VillageWavesLaw", "tell", "(LVillageWaves;II[J)I"⟩
abbrev rm_Law_tell : Room := { frames := 8, cells := 2, slots := 12, locals := 136 }
theorem d_Law_tell_0 : decode b_Law_tell 0 = .ok (.aload_n 3, 1) := by decide +kernel
theorem d_Law_tell_1 : decode b_Law_tell 1 = .ok (.iconst 0, 1) := by decide +kernel
theorem d_Law_tell_2 : decode b_Law_tell 2 = .ok (.aload_n 0, 1) := by decide +kernel
theorem d_Law_tell_3 : decode b_Law_tell 3 = .ok (.iload_n 1, 1) := by decide +kernel
theorem d_Law_tell_4 : decode b_Law_tell 4 = .ok (.iload_n 2, 1) := by decide +kernel
theorem d_Law_tell_5 : decode b_Law_tell 5 = .ok (.invokevirtual 63, 3) := by decide +kernel
theorem d_Law_tell_8 : decode b_Law_tell 8 = .ok (.i2l, 1) := by decide +kernel
theorem d_Law_tell_9 : decode b_Law_tell 9 = .ok (.lastore, 1) := by decide +kernel
theorem d_Law_tell_10 : decode b_Law_tell 10 = .ok (.goto 11, 3) := by decide +kernel
theorem d_Law_tell_13 : decode b_Law_tell 13 = .ok (.astore 4, 2) := by decide +kernel
theorem d_Law_tell_15 : decode b_Law_tell 15 = .ok (.iconst 1, 1) := by decide +kernel
theorem d_Law_tell_16 : decode b_Law_tell 16 = .ok (.ireturn, 1) := by decide +kernel
theorem d_Law_tell_17 : decode b_Law_tell 17 = .ok (.astore 4, 2) := by decide +kernel
theorem d_Law_tell_19 : decode b_Law_tell 19 = .ok (.iconst 2, 1) := by decide +kernel
theorem d_Law_tell_20 : decode b_Law_tell 20 = .ok (.ireturn, 1) := by decide +kernel
theorem d_Law_tell_21 : decode b_Law_tell 21 = .ok (.iconst 0, 1) := by decide +kernel
theorem d_Law_tell_22 : decode b_Law_tell 22 = .ok (.ireturn, 1) := by decide +kernel
def F_Law_tell (a0 : Int32) (a1 : Int32) (σ : zSt) : Option (Int32 × zSt) :=
  (F_Waves_tell a0 a1 σ).bind fun q => match q with | .inr E => (if E = "java/lang/IndexOutOfBoundsException" then some (1, σ) else (if E = "java/lang/IllegalArgumentException" then some (2, σ) else none)) | .inl z => some ((0, zsl z.2 95 z.1.toInt64))
set_option maxHeartbeats 4000000 in
set_option maxRecDepth 100000 in
theorem c_Law_tell {l : Launch} (hst : l.stackTraces = false) {G : zLA} (hx : zxl G) (ho : (4, 95) ∈ zL G) {a0 : Int32} {a1 : Int32} {σ σ' : zSt} {r : Int32} (hf : F_Law_tell a0 a1 σ = some (r, σ')) : zML l G y_Law_tell (zwsW y_Law_tell b_Law_tell 5 (some .int) [(0, 10, 13, 28), (0, 10, 17, 18)]) rm_Law_tell [.ref (zad G 4 70), .int a0, .int a1, .ref (zad G 4 95)] σ (some (.int r)) σ' := by
  refine z_ofML (own := "VillageWavesLaw") (lv := [(0, .ref (zad G 4 70)), (1, .int a0), (2, .int a1), (3, .ref (zad G 4 95))]) (by decide +kernel) rfl rfl (Nat.le_of_ble_eq_true rfl) (fun p e s m args below meth c C N T => ?_)
  rw [F_Law_tell] at hf
  obtain ⟨q, h1, hf⟩ := bd_s hf
  refine z_aload_n C d_Law_tell_0 3 rfl rfl ?_
  refine z_iconst C d_Law_tell_1 zki_0 ?_
  refine z_aload_n C d_Law_tell_2 0 rfl rfl ?_
  refine z_iload_n C d_Law_tell_3 1 rfl rfl ?_
  refine z_iload_n C d_Law_tell_4 2 rfl rfl ?_
  refine z_callXV C kl_Law_63 rfl (c_Waves_tell hst hx h1) (zx4 hx 70 rfl) rfl rfl rfl (Nat.le_of_ble_eq_true rfl) ⟨(Nat.le_of_ble_eq_true rfl), (Nat.le_of_ble_eq_true rfl)⟩ ⟨(Nat.le_of_ble_eq_true rfl), (Nat.le_of_ble_eq_true rfl)⟩ d_Law_tell_5 (fun E hE => ?_) (fun ov σ1 hE => ?_)
  · cases q with
    | inl z => cases hE
    | inr E0 =>
      cases hE
      by_cases e0 : E = "java/lang/IndexOutOfBoundsException"
      · subst e0
        have hf := iff_t hf rfl
        cases hf
        refine z_catch C [] ⟨0, 10, 13, 28⟩ [⟨0, 10, 17, 18⟩] (T.trans rfl) (fun z hz => absurd hz List.not_mem_nil) (by decide +kernel) (by decide) zq877 zp888 (fun q => ?_)
        refine z_astore C d_Law_tell_13 (by decide) ?_
        refine z_iconst C d_Law_tell_15 zki_1 ?_
        exact z_iret C rfl (Nat.le_of_ble_eq_true rfl) (Nat.le_of_ble_eq_true rfl) d_Law_tell_16
      · have hf := hf
        by_cases e1 : E = "java/lang/IllegalArgumentException"
        · subst e1
          have hf := iff_f hf (by decide)
          have hf := iff_t hf rfl
          cases hf
          refine z_catch C [⟨0, 10, 13, 28⟩] ⟨0, 10, 17, 18⟩ [] (T.trans rfl) (fun z hz => by rw [List.mem_singleton.mp hz]; exact Or.inr ⟨by decide, "java/lang/IndexOutOfBoundsException", zq877, N.2⟩) (by decide +kernel) (by decide) zq840 zp850 (fun q => ?_)
          refine z_astore C d_Law_tell_17 (by decide) ?_
          refine z_iconst C d_Law_tell_19 zki_2 ?_
          exact z_iret C rfl (Nat.le_of_ble_eq_true rfl) (Nat.le_of_ble_eq_true rfl) d_Law_tell_20
        · have hf := hf
          have hf := iff_f hf e0
          have hf := iff_f hf e1
          cases hf
  · cases q with
    | inr E0 => cases hE
    | inl z =>
      cases hE
      cases hf
      refine z_i2l C d_Law_tell_8 ?_
      refine z_last0 C ho d_Law_tell_9 ?_
      refine z_goto (tgt := 21) C d_Law_tell_10 rfl ?_
      refine z_iconst C d_Law_tell_21 zki_0 ?_
      exact z_iret C rfl (Nat.le_of_ble_eq_true rfl) (Nat.le_of_ble_eq_true rfl) d_Law_tell_22
abbrev b_Law_correct : ByteArray := method_18_code
abbrev y_Law_correct : MethodName := ⟨"VillageWavesLaw", "correct", "(LVillageWaves;III[J)I"⟩
abbrev rm_Law_correct : Room := { frames := 8, cells := 3, slots := 18, locals := 137 }
theorem d_Law_correct_0 : decode b_Law_correct 0 = .ok (.aload 4, 2) := by decide +kernel
theorem d_Law_correct_2 : decode b_Law_correct 2 = .ok (.iconst 0, 1) := by decide +kernel
theorem d_Law_correct_3 : decode b_Law_correct 3 = .ok (.aload_n 0, 1) := by decide +kernel
theorem d_Law_correct_4 : decode b_Law_correct 4 = .ok (.iload_n 1, 1) := by decide +kernel
theorem d_Law_correct_5 : decode b_Law_correct 5 = .ok (.iload_n 2, 1) := by decide +kernel
theorem d_Law_correct_6 : decode b_Law_correct 6 = .ok (.iload_n 3, 1) := by decide +kernel
theorem d_Law_correct_7 : decode b_Law_correct 7 = .ok (.invokevirtual 66, 3) := by decide +kernel
theorem d_Law_correct_10 : decode b_Law_correct 10 = .ok (.i2l, 1) := by decide +kernel
theorem d_Law_correct_11 : decode b_Law_correct 11 = .ok (.lastore, 1) := by decide +kernel
theorem d_Law_correct_12 : decode b_Law_correct 12 = .ok (.goto 11, 3) := by decide +kernel
theorem d_Law_correct_15 : decode b_Law_correct 15 = .ok (.astore 5, 2) := by decide +kernel
theorem d_Law_correct_17 : decode b_Law_correct 17 = .ok (.iconst 1, 1) := by decide +kernel
theorem d_Law_correct_18 : decode b_Law_correct 18 = .ok (.ireturn, 1) := by decide +kernel
theorem d_Law_correct_19 : decode b_Law_correct 19 = .ok (.astore 5, 2) := by decide +kernel
theorem d_Law_correct_21 : decode b_Law_correct 21 = .ok (.iconst 2, 1) := by decide +kernel
theorem d_Law_correct_22 : decode b_Law_correct 22 = .ok (.ireturn, 1) := by decide +kernel
theorem d_Law_correct_23 : decode b_Law_correct 23 = .ok (.iconst 0, 1) := by decide +kernel
theorem d_Law_correct_24 : decode b_Law_correct 24 = .ok (.ireturn, 1) := by decide +kernel
def F_Law_correct (a0 : Int32) (a1 : Int32) (a2 : Int32) (σ : zSt) : Option (Int32 × zSt) :=
  (F_Waves_correct a0 a1 a2 σ).bind fun q => match q with | .inr E => (if E = "java/lang/IndexOutOfBoundsException" then some (1, σ) else (if E = "java/lang/IllegalArgumentException" then some (2, σ) else none)) | .inl z => some ((0, zsl z.2 95 z.1.toInt64))
set_option maxHeartbeats 4000000 in
set_option maxRecDepth 100000 in
theorem c_Law_correct {l : Launch} (hst : l.stackTraces = false) {G : zLA} (hx : zxl G) (ho : (4, 95) ∈ zL G) {a0 : Int32} {a1 : Int32} {a2 : Int32} {σ σ' : zSt} {r : Int32} (hf : F_Law_correct a0 a1 a2 σ = some (r, σ')) : zML l G y_Law_correct (zwsW y_Law_correct b_Law_correct 6 (some .int) [(0, 12, 15, 28), (0, 12, 19, 18)]) rm_Law_correct [.ref (zad G 4 70), .int a0, .int a1, .int a2, .ref (zad G 4 95)] σ (some (.int r)) σ' := by
  refine z_ofML (own := "VillageWavesLaw") (lv := [(0, .ref (zad G 4 70)), (1, .int a0), (2, .int a1), (3, .int a2), (4, .ref (zad G 4 95))]) (by decide +kernel) rfl rfl (Nat.le_of_ble_eq_true rfl) (fun p e s m args below meth c C N T => ?_)
  rw [F_Law_correct] at hf
  obtain ⟨q, h1, hf⟩ := bd_s hf
  refine z_aload C d_Law_correct_0 4 rfl ?_
  refine z_iconst C d_Law_correct_2 zki_0 ?_
  refine z_aload_n C d_Law_correct_3 0 rfl rfl ?_
  refine z_iload_n C d_Law_correct_4 1 rfl rfl ?_
  refine z_iload_n C d_Law_correct_5 2 rfl rfl ?_
  refine z_iload_n C d_Law_correct_6 3 rfl rfl ?_
  refine z_callXV C kl_Law_66 rfl (c_Waves_correct hst hx h1) (zx4 hx 70 rfl) rfl rfl rfl (Nat.le_of_ble_eq_true rfl) ⟨(Nat.le_of_ble_eq_true rfl), (Nat.le_of_ble_eq_true rfl)⟩ ⟨(Nat.le_of_ble_eq_true rfl), (Nat.le_of_ble_eq_true rfl)⟩ d_Law_correct_7 (fun E hE => ?_) (fun ov σ1 hE => ?_)
  · cases q with
    | inl z => cases hE
    | inr E0 =>
      cases hE
      by_cases e0 : E = "java/lang/IndexOutOfBoundsException"
      · subst e0
        have hf := iff_t hf rfl
        cases hf
        refine z_catch C [] ⟨0, 12, 15, 28⟩ [⟨0, 12, 19, 18⟩] (T.trans rfl) (fun z hz => absurd hz List.not_mem_nil) (by decide +kernel) (by decide) zq877 zp888 (fun q => ?_)
        refine z_astore C d_Law_correct_15 (by decide) ?_
        refine z_iconst C d_Law_correct_17 zki_1 ?_
        exact z_iret C rfl (Nat.le_of_ble_eq_true rfl) (Nat.le_of_ble_eq_true rfl) d_Law_correct_18
      · have hf := hf
        by_cases e1 : E = "java/lang/IllegalArgumentException"
        · subst e1
          have hf := iff_f hf (by decide)
          have hf := iff_t hf rfl
          cases hf
          refine z_catch C [⟨0, 12, 15, 28⟩] ⟨0, 12, 19, 18⟩ [] (T.trans rfl) (fun z hz => by rw [List.mem_singleton.mp hz]; exact Or.inr ⟨by decide, "java/lang/IndexOutOfBoundsException", zq877, N.2⟩) (by decide +kernel) (by decide) zq840 zp850 (fun q => ?_)
          refine z_astore C d_Law_correct_19 (by decide) ?_
          refine z_iconst C d_Law_correct_21 zki_2 ?_
          exact z_iret C rfl (Nat.le_of_ble_eq_true rfl) (Nat.le_of_ble_eq_true rfl) d_Law_correct_22
        · have hf := hf
          have hf := iff_f hf e0
          have hf := iff_f hf e1
          cases hf
  · cases q with
    | inr E0 => cases hE
    | inl z =>
      cases hE
      cases hf
      refine z_i2l C d_Law_correct_10 ?_
      refine z_last0 C ho d_Law_correct_11 ?_
      refine z_goto (tgt := 23) C d_Law_correct_12 rfl ?_
      refine z_iconst C d_Law_correct_23 zki_0 ?_
      exact z_iret C rfl (Nat.le_of_ble_eq_true rfl) (Nat.le_of_ble_eq_true rfl) d_Law_correct_24
abbrev b_Law_run : ByteArray := method_19_code
abbrev y_Law_run : MethodName := ⟨"VillageWavesLaw", "run", "(LVillageWaves;I[J)I"⟩
abbrev rm_Law_run : Room := { frames := 8, cells := 1, slots := 6, locals := 164 }
theorem d_Law_run_0 : decode b_Law_run 0 = .ok (.aload_n 2, 1) := by decide +kernel
theorem d_Law_run_1 : decode b_Law_run 1 = .ok (.iconst 0, 1) := by decide +kernel
theorem d_Law_run_2 : decode b_Law_run 2 = .ok (.aload_n 0, 1) := by decide +kernel
theorem d_Law_run_3 : decode b_Law_run 3 = .ok (.iload_n 1, 1) := by decide +kernel
theorem d_Law_run_4 : decode b_Law_run 4 = .ok (.invokevirtual 69, 3) := by decide +kernel
theorem d_Law_run_7 : decode b_Law_run 7 = .ok (.i2l, 1) := by decide +kernel
theorem d_Law_run_8 : decode b_Law_run 8 = .ok (.lastore, 1) := by decide +kernel
theorem d_Law_run_9 : decode b_Law_run 9 = .ok (.goto 6, 3) := by decide +kernel
theorem d_Law_run_12 : decode b_Law_run 12 = .ok (.astore_n 3, 1) := by decide +kernel
theorem d_Law_run_13 : decode b_Law_run 13 = .ok (.iconst 1, 1) := by decide +kernel
theorem d_Law_run_14 : decode b_Law_run 14 = .ok (.ireturn, 1) := by decide +kernel
theorem d_Law_run_15 : decode b_Law_run 15 = .ok (.iconst 0, 1) := by decide +kernel
theorem d_Law_run_16 : decode b_Law_run 16 = .ok (.ireturn, 1) := by decide +kernel
def F_Law_run (a0 : Int32) (σ : zSt) : Option (Int32 × zSt) :=
  (F_Waves_run a0 σ).bind fun q => match q with | .inr E => (if E = "java/lang/IllegalArgumentException" then some (1, σ) else none) | .inl z => some ((0, zsl z.2 95 z.1.toInt64))
set_option maxHeartbeats 4000000 in
set_option maxRecDepth 100000 in
theorem c_Law_run {l : Launch} (hst : l.stackTraces = false) {G : zLA} (hx : zxl G) (ho : (4, 95) ∈ zL G) {a0 : Int32} {σ σ' : zSt} {r : Int32} (hf : F_Law_run a0 σ = some (r, σ')) : zML l G y_Law_run (zwsW y_Law_run b_Law_run 4 (some .int) [(0, 9, 12, 18)]) rm_Law_run [.ref (zad G 4 70), .int a0, .ref (zad G 4 95)] σ (some (.int r)) σ' := by
  refine z_ofML (own := "VillageWavesLaw") (lv := [(0, .ref (zad G 4 70)), (1, .int a0), (2, .ref (zad G 4 95))]) (by decide +kernel) rfl rfl (Nat.le_of_ble_eq_true rfl) (fun p e s m args below meth c C N T => ?_)
  rw [F_Law_run] at hf
  obtain ⟨q, h1, hf⟩ := bd_s hf
  refine z_aload_n C d_Law_run_0 2 rfl rfl ?_
  refine z_iconst C d_Law_run_1 zki_0 ?_
  refine z_aload_n C d_Law_run_2 0 rfl rfl ?_
  refine z_iload_n C d_Law_run_3 1 rfl rfl ?_
  refine z_callXV C kl_Law_69 rfl (c_Waves_run hst hx h1) (zx4 hx 70 rfl) rfl rfl rfl (Nat.le_of_ble_eq_true rfl) ⟨(Nat.le_of_ble_eq_true rfl), (Nat.le_of_ble_eq_true rfl)⟩ ⟨(Nat.le_of_ble_eq_true rfl), (Nat.le_of_ble_eq_true rfl)⟩ d_Law_run_4 (fun E hE => ?_) (fun ov σ1 hE => ?_)
  · cases q with
    | inl z => cases hE
    | inr E0 =>
      cases hE
      by_cases e0 : E = "java/lang/IllegalArgumentException"
      · subst e0
        have hf := iff_t hf rfl
        cases hf
        refine z_catch C [] ⟨0, 9, 12, 18⟩ [] (T.trans rfl) (fun z hz => absurd hz List.not_mem_nil) (by decide +kernel) (by decide) zq840 zp850 (fun q => ?_)
        refine z_astore_n C d_Law_run_12 rfl (by decide) ?_
        refine z_iconst C d_Law_run_13 zki_1 ?_
        exact z_iret C rfl (Nat.le_of_ble_eq_true rfl) (Nat.le_of_ble_eq_true rfl) d_Law_run_14
      · have hf := hf
        have hf := iff_f hf e0
        cases hf
  · cases q with
    | inr E0 => cases hE
    | inl z =>
      cases hE
      cases hf
      refine z_i2l C d_Law_run_7 ?_
      refine z_last0 C ho d_Law_run_8 ?_
      refine z_goto (tgt := 15) C d_Law_run_9 rfl ?_
      refine z_iconst C d_Law_run_15 zki_0 ?_
      exact z_iret C rfl (Nat.le_of_ble_eq_true rfl) (Nat.le_of_ble_eq_true rfl) d_Law_run_16
abbrev b_Law_chance : ByteArray := method_20_code
abbrev y_Law_chance : MethodName := ⟨"VillageWavesLaw", "chance", "(LVillageWaves;I[D)I"⟩
abbrev rm_Law_chance : Room := { frames := 8, cells := 1, slots := 6, locals := 196 }
theorem d_Law_chance_0 : decode b_Law_chance 0 = .ok (.aload_n 2, 1) := by decide +kernel
theorem d_Law_chance_1 : decode b_Law_chance 1 = .ok (.iconst 0, 1) := by decide +kernel
theorem d_Law_chance_2 : decode b_Law_chance 2 = .ok (.aload_n 0, 1) := by decide +kernel
theorem d_Law_chance_3 : decode b_Law_chance 3 = .ok (.iload_n 1, 1) := by decide +kernel
theorem d_Law_chance_4 : decode b_Law_chance 4 = .ok (.invokevirtual 72, 3) := by decide +kernel
theorem d_Law_chance_7 : decode b_Law_chance 7 = .ok (.dastore, 1) := by decide +kernel
theorem d_Law_chance_8 : decode b_Law_chance 8 = .ok (.goto 6, 3) := by decide +kernel
theorem d_Law_chance_11 : decode b_Law_chance 11 = .ok (.astore_n 3, 1) := by decide +kernel
theorem d_Law_chance_12 : decode b_Law_chance 12 = .ok (.iconst 1, 1) := by decide +kernel
theorem d_Law_chance_13 : decode b_Law_chance 13 = .ok (.ireturn, 1) := by decide +kernel
theorem d_Law_chance_14 : decode b_Law_chance 14 = .ok (.iconst 0, 1) := by decide +kernel
theorem d_Law_chance_15 : decode b_Law_chance 15 = .ok (.ireturn, 1) := by decide +kernel
def F_Law_chance (a0 : Int32) (σ : zSt) : Option (Int32 × zSt) :=
  (F_Waves_chance a0 σ).bind fun q => match q with | .inr E => (if E = "java/lang/IndexOutOfBoundsException" then some (1, σ) else none) | .inl z => some ((0, zsd z.2 96 z.1))
set_option maxHeartbeats 4000000 in
set_option maxRecDepth 100000 in
theorem c_Law_chance {l : Launch} (hst : l.stackTraces = false) {G : zLA} (hx : zxl G) (ho : (4, 96) ∈ zL G) {a0 : Int32} {σ σ' : zSt} {r : Int32} (hf : F_Law_chance a0 σ = some (r, σ')) : zML l G y_Law_chance (zwsW y_Law_chance b_Law_chance 4 (some .int) [(0, 8, 11, 28)]) rm_Law_chance [.ref (zad G 4 70), .int a0, .ref (zad G 4 96)] σ (some (.int r)) σ' := by
  refine z_ofML (own := "VillageWavesLaw") (lv := [(0, .ref (zad G 4 70)), (1, .int a0), (2, .ref (zad G 4 96))]) (by decide +kernel) rfl rfl (Nat.le_of_ble_eq_true rfl) (fun p e s m args below meth c C N T => ?_)
  rw [F_Law_chance] at hf
  obtain ⟨q, h1, hf⟩ := bd_s hf
  refine z_aload_n C d_Law_chance_0 2 rfl rfl ?_
  refine z_iconst C d_Law_chance_1 zki_0 ?_
  refine z_aload_n C d_Law_chance_2 0 rfl rfl ?_
  refine z_iload_n C d_Law_chance_3 1 rfl rfl ?_
  refine z_callXV C kl_Law_72 rfl (c_Waves_chance hst hx h1) (zx4 hx 70 rfl) rfl rfl rfl (Nat.le_of_ble_eq_true rfl) ⟨(Nat.le_of_ble_eq_true rfl), (Nat.le_of_ble_eq_true rfl)⟩ ⟨(Nat.le_of_ble_eq_true rfl), (Nat.le_of_ble_eq_true rfl)⟩ d_Law_chance_4 (fun E hE => ?_) (fun ov σ1 hE => ?_)
  · cases q with
    | inl z => cases hE
    | inr E0 =>
      cases hE
      by_cases e0 : E = "java/lang/IndexOutOfBoundsException"
      · subst e0
        have hf := iff_t hf rfl
        cases hf
        refine z_catch C [] ⟨0, 8, 11, 28⟩ [] (T.trans rfl) (fun z hz => absurd hz List.not_mem_nil) (by decide +kernel) (by decide) zq877 zp888 (fun q => ?_)
        refine z_astore_n C d_Law_chance_11 rfl (by decide) ?_
        refine z_iconst C d_Law_chance_12 zki_1 ?_
        exact z_iret C rfl (Nat.le_of_ble_eq_true rfl) (Nat.le_of_ble_eq_true rfl) d_Law_chance_13
      · have hf := hf
        have hf := iff_f hf e0
        cases hf
  · cases q with
    | inr E0 => cases hE
    | inl z =>
      cases hE
      cases hf
      refine z_dast0 C ho d_Law_chance_7 ?_
      refine z_goto (tgt := 14) C d_Law_chance_8 rfl ?_
      refine z_iconst C d_Law_chance_14 zki_0 ?_
      exact z_iret C rfl (Nat.le_of_ble_eq_true rfl) (Nat.le_of_ble_eq_true rfl) d_Law_chance_15
abbrev b_Law_near : ByteArray := method_21_code
abbrev y_Law_near : MethodName := ⟨"VillageWavesLaw", "near", "(LVillageWaves;II[J)I"⟩
abbrev rm_Law_near : Room := { frames := 8, cells := 2, slots := 12, locals := 135 }
theorem d_Law_near_0 : decode b_Law_near 0 = .ok (.aload_n 3, 1) := by decide +kernel
theorem d_Law_near_1 : decode b_Law_near 1 = .ok (.iconst 0, 1) := by decide +kernel
theorem d_Law_near_2 : decode b_Law_near 2 = .ok (.aload_n 0, 1) := by decide +kernel
theorem d_Law_near_3 : decode b_Law_near 3 = .ok (.iload_n 1, 1) := by decide +kernel
theorem d_Law_near_4 : decode b_Law_near 4 = .ok (.iload_n 2, 1) := by decide +kernel
theorem d_Law_near_5 : decode b_Law_near 5 = .ok (.invokevirtual 76, 3) := by decide +kernel
theorem d_Law_near_8 : decode b_Law_near 8 = .ok (.i2l, 1) := by decide +kernel
theorem d_Law_near_9 : decode b_Law_near 9 = .ok (.lastore, 1) := by decide +kernel
theorem d_Law_near_10 : decode b_Law_near 10 = .ok (.goto 7, 3) := by decide +kernel
theorem d_Law_near_13 : decode b_Law_near 13 = .ok (.astore 4, 2) := by decide +kernel
theorem d_Law_near_15 : decode b_Law_near 15 = .ok (.iconst 1, 1) := by decide +kernel
theorem d_Law_near_16 : decode b_Law_near 16 = .ok (.ireturn, 1) := by decide +kernel
theorem d_Law_near_17 : decode b_Law_near 17 = .ok (.iconst 0, 1) := by decide +kernel
theorem d_Law_near_18 : decode b_Law_near 18 = .ok (.ireturn, 1) := by decide +kernel
def F_Law_near (a0 : Int32) (a1 : Int32) (σ : zSt) : Option (Int32 × zSt) :=
  (F_Waves_near a0 a1 σ).bind fun q => match q with | .inr E => (if E = "java/lang/IndexOutOfBoundsException" then some (1, σ) else none) | .inl z => some ((0, zsl σ 95 z.toInt64))
set_option maxHeartbeats 4000000 in
set_option maxRecDepth 100000 in
theorem c_Law_near {l : Launch} (hst : l.stackTraces = false) {G : zLA} (hx : zxl G) (ho : (4, 95) ∈ zL G) {a0 : Int32} {a1 : Int32} {σ σ' : zSt} {r : Int32} (hf : F_Law_near a0 a1 σ = some (r, σ')) : zML l G y_Law_near (zwsW y_Law_near b_Law_near 5 (some .int) [(0, 10, 13, 28)]) rm_Law_near [.ref (zad G 4 70), .int a0, .int a1, .ref (zad G 4 95)] σ (some (.int r)) σ' := by
  refine z_ofML (own := "VillageWavesLaw") (lv := [(0, .ref (zad G 4 70)), (1, .int a0), (2, .int a1), (3, .ref (zad G 4 95))]) (by decide +kernel) rfl rfl (Nat.le_of_ble_eq_true rfl) (fun p e s m args below meth c C N T => ?_)
  rw [F_Law_near] at hf
  obtain ⟨q, h1, hf⟩ := bd_s hf
  refine z_aload_n C d_Law_near_0 3 rfl rfl ?_
  refine z_iconst C d_Law_near_1 zki_0 ?_
  refine z_aload_n C d_Law_near_2 0 rfl rfl ?_
  refine z_iload_n C d_Law_near_3 1 rfl rfl ?_
  refine z_iload_n C d_Law_near_4 2 rfl rfl ?_
  refine z_callXV C kl_Law_76 rfl (c_Waves_near hst hx h1) (zx4 hx 70 rfl) rfl rfl rfl (Nat.le_of_ble_eq_true rfl) ⟨(Nat.le_of_ble_eq_true rfl), (Nat.le_of_ble_eq_true rfl)⟩ ⟨(Nat.le_of_ble_eq_true rfl), (Nat.le_of_ble_eq_true rfl)⟩ d_Law_near_5 (fun E hE => ?_) (fun ov σ1 hE => ?_)
  · cases q with
    | inl z => cases hE
    | inr E0 =>
      cases hE
      by_cases e0 : E = "java/lang/IndexOutOfBoundsException"
      · subst e0
        have hf := iff_t hf rfl
        cases hf
        refine z_catch C [] ⟨0, 10, 13, 28⟩ [] (T.trans rfl) (fun z hz => absurd hz List.not_mem_nil) (by decide +kernel) (by decide) zq877 zp888 (fun q => ?_)
        refine z_astore C d_Law_near_13 (by decide) ?_
        refine z_iconst C d_Law_near_15 zki_1 ?_
        exact z_iret C rfl (Nat.le_of_ble_eq_true rfl) (Nat.le_of_ble_eq_true rfl) d_Law_near_16
      · have hf := hf
        have hf := iff_f hf e0
        cases hf
  · cases q with
    | inr E0 => cases hE
    | inl z =>
      cases hE
      cases hf
      refine z_i2l C d_Law_near_8 ?_
      refine z_last0 C ho d_Law_near_9 ?_
      refine z_goto (tgt := 17) C d_Law_near_10 rfl ?_
      refine z_iconst C d_Law_near_17 zki_0 ?_
      exact z_iret C rfl (Nat.le_of_ble_eq_true rfl) (Nat.le_of_ble_eq_true rfl) d_Law_near_18
abbrev b_Law_hops : ByteArray := method_22_code
abbrev y_Law_hops : MethodName := ⟨"VillageWavesLaw", "hops", "(LVillageWaves;II[J)I"⟩
abbrev rm_Law_hops : Room := { frames := 8, cells := 2, slots := 12, locals := 135 }
theorem d_Law_hops_0 : decode b_Law_hops 0 = .ok (.aload_n 3, 1) := by decide +kernel
theorem d_Law_hops_1 : decode b_Law_hops 1 = .ok (.iconst 0, 1) := by decide +kernel
theorem d_Law_hops_2 : decode b_Law_hops 2 = .ok (.aload_n 0, 1) := by decide +kernel
theorem d_Law_hops_3 : decode b_Law_hops 3 = .ok (.iload_n 1, 1) := by decide +kernel
theorem d_Law_hops_4 : decode b_Law_hops 4 = .ok (.iload_n 2, 1) := by decide +kernel
theorem d_Law_hops_5 : decode b_Law_hops 5 = .ok (.invokevirtual 79, 3) := by decide +kernel
theorem d_Law_hops_8 : decode b_Law_hops 8 = .ok (.i2l, 1) := by decide +kernel
theorem d_Law_hops_9 : decode b_Law_hops 9 = .ok (.lastore, 1) := by decide +kernel
theorem d_Law_hops_10 : decode b_Law_hops 10 = .ok (.goto 7, 3) := by decide +kernel
theorem d_Law_hops_13 : decode b_Law_hops 13 = .ok (.astore 4, 2) := by decide +kernel
theorem d_Law_hops_15 : decode b_Law_hops 15 = .ok (.iconst 1, 1) := by decide +kernel
theorem d_Law_hops_16 : decode b_Law_hops 16 = .ok (.ireturn, 1) := by decide +kernel
theorem d_Law_hops_17 : decode b_Law_hops 17 = .ok (.iconst 0, 1) := by decide +kernel
theorem d_Law_hops_18 : decode b_Law_hops 18 = .ok (.ireturn, 1) := by decide +kernel
def F_Law_hops (a0 : Int32) (a1 : Int32) (σ : zSt) : Option (Int32 × zSt) :=
  (F_Waves_hops a0 a1 σ).bind fun q => match q with | .inr E => (if E = "java/lang/IndexOutOfBoundsException" then some (1, σ) else none) | .inl z => some ((0, zsl σ 95 z.toInt64))
set_option maxHeartbeats 4000000 in
set_option maxRecDepth 100000 in
theorem c_Law_hops {l : Launch} (hst : l.stackTraces = false) {G : zLA} (hx : zxl G) (ho : (4, 95) ∈ zL G) {a0 : Int32} {a1 : Int32} {σ σ' : zSt} {r : Int32} (hf : F_Law_hops a0 a1 σ = some (r, σ')) : zML l G y_Law_hops (zwsW y_Law_hops b_Law_hops 5 (some .int) [(0, 10, 13, 28)]) rm_Law_hops [.ref (zad G 4 70), .int a0, .int a1, .ref (zad G 4 95)] σ (some (.int r)) σ' := by
  refine z_ofML (own := "VillageWavesLaw") (lv := [(0, .ref (zad G 4 70)), (1, .int a0), (2, .int a1), (3, .ref (zad G 4 95))]) (by decide +kernel) rfl rfl (Nat.le_of_ble_eq_true rfl) (fun p e s m args below meth c C N T => ?_)
  rw [F_Law_hops] at hf
  obtain ⟨q, h1, hf⟩ := bd_s hf
  refine z_aload_n C d_Law_hops_0 3 rfl rfl ?_
  refine z_iconst C d_Law_hops_1 zki_0 ?_
  refine z_aload_n C d_Law_hops_2 0 rfl rfl ?_
  refine z_iload_n C d_Law_hops_3 1 rfl rfl ?_
  refine z_iload_n C d_Law_hops_4 2 rfl rfl ?_
  refine z_callXV C kl_Law_79 rfl (c_Waves_hops hst hx h1) (zx4 hx 70 rfl) rfl rfl rfl (Nat.le_of_ble_eq_true rfl) ⟨(Nat.le_of_ble_eq_true rfl), (Nat.le_of_ble_eq_true rfl)⟩ ⟨(Nat.le_of_ble_eq_true rfl), (Nat.le_of_ble_eq_true rfl)⟩ d_Law_hops_5 (fun E hE => ?_) (fun ov σ1 hE => ?_)
  · cases q with
    | inl z => cases hE
    | inr E0 =>
      cases hE
      by_cases e0 : E = "java/lang/IndexOutOfBoundsException"
      · subst e0
        have hf := iff_t hf rfl
        cases hf
        refine z_catch C [] ⟨0, 10, 13, 28⟩ [] (T.trans rfl) (fun z hz => absurd hz List.not_mem_nil) (by decide +kernel) (by decide) zq877 zp888 (fun q => ?_)
        refine z_astore C d_Law_hops_13 (by decide) ?_
        refine z_iconst C d_Law_hops_15 zki_1 ?_
        exact z_iret C rfl (Nat.le_of_ble_eq_true rfl) (Nat.le_of_ble_eq_true rfl) d_Law_hops_16
      · have hf := hf
        have hf := iff_f hf e0
        cases hf
  · cases q with
    | inr E0 => cases hE
    | inl z =>
      cases hE
      cases hf
      refine z_i2l C d_Law_hops_8 ?_
      refine z_last0 C ho d_Law_hops_9 ?_
      refine z_goto (tgt := 17) C d_Law_hops_10 rfl ?_
      refine z_iconst C d_Law_hops_17 zki_0 ?_
      exact z_iret C rfl (Nat.le_of_ble_eq_true rfl) (Nat.le_of_ble_eq_true rfl) d_Law_hops_18
abbrev b_Law_overlap : ByteArray := method_23_code
abbrev y_Law_overlap : MethodName := ⟨"VillageWavesLaw", "overlap", "(LVillageWaves;II[J)I"⟩
abbrev rm_Law_overlap : Room := { frames := 8, cells := 2, slots := 12, locals := 137 }
theorem d_Law_overlap_0 : decode b_Law_overlap 0 = .ok (.aload_n 3, 1) := by decide +kernel
theorem d_Law_overlap_1 : decode b_Law_overlap 1 = .ok (.iconst 0, 1) := by decide +kernel
theorem d_Law_overlap_2 : decode b_Law_overlap 2 = .ok (.aload_n 0, 1) := by decide +kernel
theorem d_Law_overlap_3 : decode b_Law_overlap 3 = .ok (.iload_n 1, 1) := by decide +kernel
theorem d_Law_overlap_4 : decode b_Law_overlap 4 = .ok (.iload_n 2, 1) := by decide +kernel
theorem d_Law_overlap_5 : decode b_Law_overlap 5 = .ok (.invokevirtual 82, 3) := by decide +kernel
theorem d_Law_overlap_8 : decode b_Law_overlap 8 = .ok (.i2l, 1) := by decide +kernel
theorem d_Law_overlap_9 : decode b_Law_overlap 9 = .ok (.lastore, 1) := by decide +kernel
theorem d_Law_overlap_10 : decode b_Law_overlap 10 = .ok (.goto 7, 3) := by decide +kernel
theorem d_Law_overlap_13 : decode b_Law_overlap 13 = .ok (.astore 4, 2) := by decide +kernel
theorem d_Law_overlap_15 : decode b_Law_overlap 15 = .ok (.iconst 1, 1) := by decide +kernel
theorem d_Law_overlap_16 : decode b_Law_overlap 16 = .ok (.ireturn, 1) := by decide +kernel
theorem d_Law_overlap_17 : decode b_Law_overlap 17 = .ok (.iconst 0, 1) := by decide +kernel
theorem d_Law_overlap_18 : decode b_Law_overlap 18 = .ok (.ireturn, 1) := by decide +kernel
def F_Law_overlap (a0 : Int32) (a1 : Int32) (σ : zSt) : Option (Int32 × zSt) :=
  (F_Waves_overlap a0 a1 σ).bind fun q => match q with | .inr E => (if E = "java/lang/IndexOutOfBoundsException" then some (1, σ) else none) | .inl z => some ((0, zsl σ 95 z.toInt64))
set_option maxHeartbeats 4000000 in
set_option maxRecDepth 100000 in
theorem c_Law_overlap {l : Launch} (hst : l.stackTraces = false) {G : zLA} (hx : zxl G) (ho : (4, 95) ∈ zL G) {a0 : Int32} {a1 : Int32} {σ σ' : zSt} {r : Int32} (hf : F_Law_overlap a0 a1 σ = some (r, σ')) : zML l G y_Law_overlap (zwsW y_Law_overlap b_Law_overlap 5 (some .int) [(0, 10, 13, 28)]) rm_Law_overlap [.ref (zad G 4 70), .int a0, .int a1, .ref (zad G 4 95)] σ (some (.int r)) σ' := by
  refine z_ofML (own := "VillageWavesLaw") (lv := [(0, .ref (zad G 4 70)), (1, .int a0), (2, .int a1), (3, .ref (zad G 4 95))]) (by decide +kernel) rfl rfl (Nat.le_of_ble_eq_true rfl) (fun p e s m args below meth c C N T => ?_)
  rw [F_Law_overlap] at hf
  obtain ⟨q, h1, hf⟩ := bd_s hf
  refine z_aload_n C d_Law_overlap_0 3 rfl rfl ?_
  refine z_iconst C d_Law_overlap_1 zki_0 ?_
  refine z_aload_n C d_Law_overlap_2 0 rfl rfl ?_
  refine z_iload_n C d_Law_overlap_3 1 rfl rfl ?_
  refine z_iload_n C d_Law_overlap_4 2 rfl rfl ?_
  refine z_callXV C kl_Law_82 rfl (c_Waves_overlap hst hx h1) (zx4 hx 70 rfl) rfl rfl rfl (Nat.le_of_ble_eq_true rfl) ⟨(Nat.le_of_ble_eq_true rfl), (Nat.le_of_ble_eq_true rfl)⟩ ⟨(Nat.le_of_ble_eq_true rfl), (Nat.le_of_ble_eq_true rfl)⟩ d_Law_overlap_5 (fun E hE => ?_) (fun ov σ1 hE => ?_)
  · cases q with
    | inl z => cases hE
    | inr E0 =>
      cases hE
      by_cases e0 : E = "java/lang/IndexOutOfBoundsException"
      · subst e0
        have hf := iff_t hf rfl
        cases hf
        refine z_catch C [] ⟨0, 10, 13, 28⟩ [] (T.trans rfl) (fun z hz => absurd hz List.not_mem_nil) (by decide +kernel) (by decide) zq877 zp888 (fun q => ?_)
        refine z_astore C d_Law_overlap_13 (by decide) ?_
        refine z_iconst C d_Law_overlap_15 zki_1 ?_
        exact z_iret C rfl (Nat.le_of_ble_eq_true rfl) (Nat.le_of_ble_eq_true rfl) d_Law_overlap_16
      · have hf := hf
        have hf := iff_f hf e0
        cases hf
  · cases q with
    | inr E0 => cases hE
    | inl z =>
      cases hE
      cases hf
      refine z_i2l C d_Law_overlap_8 ?_
      refine z_last0 C ho d_Law_overlap_9 ?_
      refine z_goto (tgt := 17) C d_Law_overlap_10 rfl ?_
      refine z_iconst C d_Law_overlap_17 zki_0 ?_
      exact z_iret C rfl (Nat.le_of_ble_eq_true rfl) (Nat.le_of_ble_eq_true rfl) d_Law_overlap_18
abbrev b_Law_reached : ByteArray := method_24_code
abbrev y_Law_reached : MethodName := ⟨"VillageWavesLaw", "reached", "(LVillageWaves;III[J)I"⟩
abbrev rm_Law_reached : Room := { frames := 8, cells := 3, slots := 18, locals := 176 }
theorem d_Law_reached_0 : decode b_Law_reached 0 = .ok (.aload 4, 2) := by decide +kernel
theorem d_Law_reached_2 : decode b_Law_reached 2 = .ok (.iconst 0, 1) := by decide +kernel
theorem d_Law_reached_3 : decode b_Law_reached 3 = .ok (.aload_n 0, 1) := by decide +kernel
theorem d_Law_reached_4 : decode b_Law_reached 4 = .ok (.iload_n 1, 1) := by decide +kernel
theorem d_Law_reached_5 : decode b_Law_reached 5 = .ok (.iload_n 2, 1) := by decide +kernel
theorem d_Law_reached_6 : decode b_Law_reached 6 = .ok (.iload_n 3, 1) := by decide +kernel
theorem d_Law_reached_7 : decode b_Law_reached 7 = .ok (.invokevirtual 85, 3) := by decide +kernel
theorem d_Law_reached_10 : decode b_Law_reached 10 = .ok (.i2l, 1) := by decide +kernel
theorem d_Law_reached_11 : decode b_Law_reached 11 = .ok (.lastore, 1) := by decide +kernel
theorem d_Law_reached_12 : decode b_Law_reached 12 = .ok (.goto 11, 3) := by decide +kernel
theorem d_Law_reached_15 : decode b_Law_reached 15 = .ok (.astore 5, 2) := by decide +kernel
theorem d_Law_reached_17 : decode b_Law_reached 17 = .ok (.iconst 1, 1) := by decide +kernel
theorem d_Law_reached_18 : decode b_Law_reached 18 = .ok (.ireturn, 1) := by decide +kernel
theorem d_Law_reached_19 : decode b_Law_reached 19 = .ok (.astore 5, 2) := by decide +kernel
theorem d_Law_reached_21 : decode b_Law_reached 21 = .ok (.iconst 2, 1) := by decide +kernel
theorem d_Law_reached_22 : decode b_Law_reached 22 = .ok (.ireturn, 1) := by decide +kernel
theorem d_Law_reached_23 : decode b_Law_reached 23 = .ok (.iconst 0, 1) := by decide +kernel
theorem d_Law_reached_24 : decode b_Law_reached 24 = .ok (.ireturn, 1) := by decide +kernel
def F_Law_reached (a0 : Int32) (a1 : Int32) (a2 : Int32) (σ : zSt) : Option (Int32 × zSt) :=
  (F_Waves_reached a0 a1 a2 σ).bind fun q => match q with | .inr E => (if E = "java/lang/IndexOutOfBoundsException" then some (1, σ) else (if E = "java/lang/IllegalArgumentException" then some (2, σ) else none)) | .inl z => some ((0, zsl z.2 95 z.1.toInt64))
set_option maxHeartbeats 4000000 in
set_option maxRecDepth 100000 in
theorem c_Law_reached {l : Launch} (hst : l.stackTraces = false) {G : zLA} (hx : zxl G) (ho : (4, 95) ∈ zL G) {a0 : Int32} {a1 : Int32} {a2 : Int32} {σ σ' : zSt} {r : Int32} (hf : F_Law_reached a0 a1 a2 σ = some (r, σ')) : zML l G y_Law_reached (zwsW y_Law_reached b_Law_reached 6 (some .int) [(0, 12, 15, 28), (0, 12, 19, 18)]) rm_Law_reached [.ref (zad G 4 70), .int a0, .int a1, .int a2, .ref (zad G 4 95)] σ (some (.int r)) σ' := by
  refine z_ofML (own := "VillageWavesLaw") (lv := [(0, .ref (zad G 4 70)), (1, .int a0), (2, .int a1), (3, .int a2), (4, .ref (zad G 4 95))]) (by decide +kernel) rfl rfl (Nat.le_of_ble_eq_true rfl) (fun p e s m args below meth c C N T => ?_)
  rw [F_Law_reached] at hf
  obtain ⟨q, h1, hf⟩ := bd_s hf
  refine z_aload C d_Law_reached_0 4 rfl ?_
  refine z_iconst C d_Law_reached_2 zki_0 ?_
  refine z_aload_n C d_Law_reached_3 0 rfl rfl ?_
  refine z_iload_n C d_Law_reached_4 1 rfl rfl ?_
  refine z_iload_n C d_Law_reached_5 2 rfl rfl ?_
  refine z_iload_n C d_Law_reached_6 3 rfl rfl ?_
  refine z_callXV C kl_Law_85 rfl (c_Waves_reached hst hx h1) (zx4 hx 70 rfl) rfl rfl rfl (Nat.le_of_ble_eq_true rfl) ⟨(Nat.le_of_ble_eq_true rfl), (Nat.le_of_ble_eq_true rfl)⟩ ⟨(Nat.le_of_ble_eq_true rfl), (Nat.le_of_ble_eq_true rfl)⟩ d_Law_reached_7 (fun E hE => ?_) (fun ov σ1 hE => ?_)
  · cases q with
    | inl z => cases hE
    | inr E0 =>
      cases hE
      by_cases e0 : E = "java/lang/IndexOutOfBoundsException"
      · subst e0
        have hf := iff_t hf rfl
        cases hf
        refine z_catch C [] ⟨0, 12, 15, 28⟩ [⟨0, 12, 19, 18⟩] (T.trans rfl) (fun z hz => absurd hz List.not_mem_nil) (by decide +kernel) (by decide) zq877 zp888 (fun q => ?_)
        refine z_astore C d_Law_reached_15 (by decide) ?_
        refine z_iconst C d_Law_reached_17 zki_1 ?_
        exact z_iret C rfl (Nat.le_of_ble_eq_true rfl) (Nat.le_of_ble_eq_true rfl) d_Law_reached_18
      · have hf := hf
        by_cases e1 : E = "java/lang/IllegalArgumentException"
        · subst e1
          have hf := iff_f hf (by decide)
          have hf := iff_t hf rfl
          cases hf
          refine z_catch C [⟨0, 12, 15, 28⟩] ⟨0, 12, 19, 18⟩ [] (T.trans rfl) (fun z hz => by rw [List.mem_singleton.mp hz]; exact Or.inr ⟨by decide, "java/lang/IndexOutOfBoundsException", zq877, N.2⟩) (by decide +kernel) (by decide) zq840 zp850 (fun q => ?_)
          refine z_astore C d_Law_reached_19 (by decide) ?_
          refine z_iconst C d_Law_reached_21 zki_2 ?_
          exact z_iret C rfl (Nat.le_of_ble_eq_true rfl) (Nat.le_of_ble_eq_true rfl) d_Law_reached_22
        · have hf := hf
          have hf := iff_f hf e0
          have hf := iff_f hf e1
          cases hf
  · cases q with
    | inr E0 => cases hE
    | inl z =>
      cases hE
      cases hf
      refine z_i2l C d_Law_reached_10 ?_
      refine z_last0 C ho d_Law_reached_11 ?_
      refine z_goto (tgt := 23) C d_Law_reached_12 rfl ?_
      refine z_iconst C d_Law_reached_23 zki_0 ?_
      exact z_iret C rfl (Nat.le_of_ble_eq_true rfl) (Nat.le_of_ble_eq_true rfl) d_Law_reached_24
abbrev b_Law_correctedIn : ByteArray := method_25_code
abbrev y_Law_correctedIn : MethodName := ⟨"VillageWavesLaw", "correctedIn", "(LVillageWaves;II[J)I"⟩
abbrev rm_Law_correctedIn : Room := { frames := 8, cells := 2, slots := 12, locals := 176 }
theorem d_Law_correctedIn_0 : decode b_Law_correctedIn 0 = .ok (.aload_n 3, 1) := by decide +kernel
theorem d_Law_correctedIn_1 : decode b_Law_correctedIn 1 = .ok (.iconst 0, 1) := by decide +kernel
theorem d_Law_correctedIn_2 : decode b_Law_correctedIn 2 = .ok (.aload_n 0, 1) := by decide +kernel
theorem d_Law_correctedIn_3 : decode b_Law_correctedIn 3 = .ok (.iload_n 1, 1) := by decide +kernel
theorem d_Law_correctedIn_4 : decode b_Law_correctedIn 4 = .ok (.iload_n 2, 1) := by decide +kernel
theorem d_Law_correctedIn_5 : decode b_Law_correctedIn 5 = .ok (.invokevirtual 88, 3) := by decide +kernel
theorem d_Law_correctedIn_8 : decode b_Law_correctedIn 8 = .ok (.i2l, 1) := by decide +kernel
theorem d_Law_correctedIn_9 : decode b_Law_correctedIn 9 = .ok (.lastore, 1) := by decide +kernel
theorem d_Law_correctedIn_10 : decode b_Law_correctedIn 10 = .ok (.goto 11, 3) := by decide +kernel
theorem d_Law_correctedIn_13 : decode b_Law_correctedIn 13 = .ok (.astore 4, 2) := by decide +kernel
theorem d_Law_correctedIn_15 : decode b_Law_correctedIn 15 = .ok (.iconst 1, 1) := by decide +kernel
theorem d_Law_correctedIn_16 : decode b_Law_correctedIn 16 = .ok (.ireturn, 1) := by decide +kernel
theorem d_Law_correctedIn_17 : decode b_Law_correctedIn 17 = .ok (.astore 4, 2) := by decide +kernel
theorem d_Law_correctedIn_19 : decode b_Law_correctedIn 19 = .ok (.iconst 2, 1) := by decide +kernel
theorem d_Law_correctedIn_20 : decode b_Law_correctedIn 20 = .ok (.ireturn, 1) := by decide +kernel
theorem d_Law_correctedIn_21 : decode b_Law_correctedIn 21 = .ok (.iconst 0, 1) := by decide +kernel
theorem d_Law_correctedIn_22 : decode b_Law_correctedIn 22 = .ok (.ireturn, 1) := by decide +kernel
def F_Law_correctedIn (a0 : Int32) (a1 : Int32) (σ : zSt) : Option (Int32 × zSt) :=
  (F_Waves_correctedIn a0 a1 σ).bind fun q => match q with | .inr E => (if E = "java/lang/IndexOutOfBoundsException" then some (1, σ) else (if E = "java/lang/IllegalArgumentException" then some (2, σ) else none)) | .inl z => some ((0, zsl z.2 95 z.1.toInt64))
set_option maxHeartbeats 4000000 in
set_option maxRecDepth 100000 in
theorem c_Law_correctedIn {l : Launch} (hst : l.stackTraces = false) {G : zLA} (hx : zxl G) (ho : (4, 95) ∈ zL G) {a0 : Int32} {a1 : Int32} {σ σ' : zSt} {r : Int32} (hf : F_Law_correctedIn a0 a1 σ = some (r, σ')) : zML l G y_Law_correctedIn (zwsW y_Law_correctedIn b_Law_correctedIn 5 (some .int) [(0, 10, 13, 28), (0, 10, 17, 18)]) rm_Law_correctedIn [.ref (zad G 4 70), .int a0, .int a1, .ref (zad G 4 95)] σ (some (.int r)) σ' := by
  refine z_ofML (own := "VillageWavesLaw") (lv := [(0, .ref (zad G 4 70)), (1, .int a0), (2, .int a1), (3, .ref (zad G 4 95))]) (by decide +kernel) rfl rfl (Nat.le_of_ble_eq_true rfl) (fun p e s m args below meth c C N T => ?_)
  rw [F_Law_correctedIn] at hf
  obtain ⟨q, h1, hf⟩ := bd_s hf
  refine z_aload_n C d_Law_correctedIn_0 3 rfl rfl ?_
  refine z_iconst C d_Law_correctedIn_1 zki_0 ?_
  refine z_aload_n C d_Law_correctedIn_2 0 rfl rfl ?_
  refine z_iload_n C d_Law_correctedIn_3 1 rfl rfl ?_
  refine z_iload_n C d_Law_correctedIn_4 2 rfl rfl ?_
  refine z_callXV C kl_Law_88 rfl (c_Waves_correctedIn hst hx h1) (zx4 hx 70 rfl) rfl rfl rfl (Nat.le_of_ble_eq_true rfl) ⟨(Nat.le_of_ble_eq_true rfl), (Nat.le_of_ble_eq_true rfl)⟩ ⟨(Nat.le_of_ble_eq_true rfl), (Nat.le_of_ble_eq_true rfl)⟩ d_Law_correctedIn_5 (fun E hE => ?_) (fun ov σ1 hE => ?_)
  · cases q with
    | inl z => cases hE
    | inr E0 =>
      cases hE
      by_cases e0 : E = "java/lang/IndexOutOfBoundsException"
      · subst e0
        have hf := iff_t hf rfl
        cases hf
        refine z_catch C [] ⟨0, 10, 13, 28⟩ [⟨0, 10, 17, 18⟩] (T.trans rfl) (fun z hz => absurd hz List.not_mem_nil) (by decide +kernel) (by decide) zq877 zp888 (fun q => ?_)
        refine z_astore C d_Law_correctedIn_13 (by decide) ?_
        refine z_iconst C d_Law_correctedIn_15 zki_1 ?_
        exact z_iret C rfl (Nat.le_of_ble_eq_true rfl) (Nat.le_of_ble_eq_true rfl) d_Law_correctedIn_16
      · have hf := hf
        by_cases e1 : E = "java/lang/IllegalArgumentException"
        · subst e1
          have hf := iff_f hf (by decide)
          have hf := iff_t hf rfl
          cases hf
          refine z_catch C [⟨0, 10, 13, 28⟩] ⟨0, 10, 17, 18⟩ [] (T.trans rfl) (fun z hz => by rw [List.mem_singleton.mp hz]; exact Or.inr ⟨by decide, "java/lang/IndexOutOfBoundsException", zq877, N.2⟩) (by decide +kernel) (by decide) zq840 zp850 (fun q => ?_)
          refine z_astore C d_Law_correctedIn_17 (by decide) ?_
          refine z_iconst C d_Law_correctedIn_19 zki_2 ?_
          exact z_iret C rfl (Nat.le_of_ble_eq_true rfl) (Nat.le_of_ble_eq_true rfl) d_Law_correctedIn_20
        · have hf := hf
          have hf := iff_f hf e0
          have hf := iff_f hf e1
          cases hf
  · cases q with
    | inr E0 => cases hE
    | inl z =>
      cases hE
      cases hf
      refine z_i2l C d_Law_correctedIn_8 ?_
      refine z_last0 C ho d_Law_correctedIn_9 ?_
      refine z_goto (tgt := 21) C d_Law_correctedIn_10 rfl ?_
      refine z_iconst C d_Law_correctedIn_21 zki_0 ?_
      exact z_iret C rfl (Nat.le_of_ble_eq_true rfl) (Nat.le_of_ble_eq_true rfl) d_Law_correctedIn_22
abbrev b_Law_ahead : ByteArray := method_26_code
abbrev y_Law_ahead : MethodName := ⟨"VillageWavesLaw", "ahead", "(LVillageWaves;II[J)I"⟩
abbrev rm_Law_ahead : Room := { frames := 8, cells := 2, slots := 12, locals := 175 }
theorem d_Law_ahead_0 : decode b_Law_ahead 0 = .ok (.aload_n 3, 1) := by decide +kernel
theorem d_Law_ahead_1 : decode b_Law_ahead 1 = .ok (.iconst 0, 1) := by decide +kernel
theorem d_Law_ahead_2 : decode b_Law_ahead 2 = .ok (.aload_n 0, 1) := by decide +kernel
theorem d_Law_ahead_3 : decode b_Law_ahead 3 = .ok (.iload_n 1, 1) := by decide +kernel
theorem d_Law_ahead_4 : decode b_Law_ahead 4 = .ok (.iload_n 2, 1) := by decide +kernel
theorem d_Law_ahead_5 : decode b_Law_ahead 5 = .ok (.invokevirtual 91, 3) := by decide +kernel
theorem d_Law_ahead_8 : decode b_Law_ahead 8 = .ok (.i2l, 1) := by decide +kernel
theorem d_Law_ahead_9 : decode b_Law_ahead 9 = .ok (.lastore, 1) := by decide +kernel
theorem d_Law_ahead_10 : decode b_Law_ahead 10 = .ok (.goto 7, 3) := by decide +kernel
theorem d_Law_ahead_13 : decode b_Law_ahead 13 = .ok (.astore 4, 2) := by decide +kernel
theorem d_Law_ahead_15 : decode b_Law_ahead 15 = .ok (.iconst 1, 1) := by decide +kernel
theorem d_Law_ahead_16 : decode b_Law_ahead 16 = .ok (.ireturn, 1) := by decide +kernel
theorem d_Law_ahead_17 : decode b_Law_ahead 17 = .ok (.iconst 0, 1) := by decide +kernel
theorem d_Law_ahead_18 : decode b_Law_ahead 18 = .ok (.ireturn, 1) := by decide +kernel
def F_Law_ahead (a0 : Int32) (a1 : Int32) (σ : zSt) : Option (Int32 × zSt) :=
  (F_Waves_ahead a0 a1 σ).bind fun q => match q with | .inr E => (if E = "java/lang/IllegalArgumentException" then some (1, σ) else none) | .inl z => some ((0, zsl z.2 95 z.1.toInt64))
set_option maxHeartbeats 4000000 in
set_option maxRecDepth 100000 in
theorem c_Law_ahead {l : Launch} (hst : l.stackTraces = false) {G : zLA} (hx : zxl G) (ho : (4, 95) ∈ zL G) {a0 : Int32} {a1 : Int32} {σ σ' : zSt} {r : Int32} (hf : F_Law_ahead a0 a1 σ = some (r, σ')) : zML l G y_Law_ahead (zwsW y_Law_ahead b_Law_ahead 5 (some .int) [(0, 10, 13, 18)]) rm_Law_ahead [.ref (zad G 4 70), .int a0, .int a1, .ref (zad G 4 95)] σ (some (.int r)) σ' := by
  refine z_ofML (own := "VillageWavesLaw") (lv := [(0, .ref (zad G 4 70)), (1, .int a0), (2, .int a1), (3, .ref (zad G 4 95))]) (by decide +kernel) rfl rfl (Nat.le_of_ble_eq_true rfl) (fun p e s m args below meth c C N T => ?_)
  rw [F_Law_ahead] at hf
  obtain ⟨q, h1, hf⟩ := bd_s hf
  refine z_aload_n C d_Law_ahead_0 3 rfl rfl ?_
  refine z_iconst C d_Law_ahead_1 zki_0 ?_
  refine z_aload_n C d_Law_ahead_2 0 rfl rfl ?_
  refine z_iload_n C d_Law_ahead_3 1 rfl rfl ?_
  refine z_iload_n C d_Law_ahead_4 2 rfl rfl ?_
  refine z_callXV C kl_Law_91 rfl (c_Waves_ahead hst hx h1) (zx4 hx 70 rfl) rfl rfl rfl (Nat.le_of_ble_eq_true rfl) ⟨(Nat.le_of_ble_eq_true rfl), (Nat.le_of_ble_eq_true rfl)⟩ ⟨(Nat.le_of_ble_eq_true rfl), (Nat.le_of_ble_eq_true rfl)⟩ d_Law_ahead_5 (fun E hE => ?_) (fun ov σ1 hE => ?_)
  · cases q with
    | inl z => cases hE
    | inr E0 =>
      cases hE
      by_cases e0 : E = "java/lang/IllegalArgumentException"
      · subst e0
        have hf := iff_t hf rfl
        cases hf
        refine z_catch C [] ⟨0, 10, 13, 18⟩ [] (T.trans rfl) (fun z hz => absurd hz List.not_mem_nil) (by decide +kernel) (by decide) zq840 zp850 (fun q => ?_)
        refine z_astore C d_Law_ahead_13 (by decide) ?_
        refine z_iconst C d_Law_ahead_15 zki_1 ?_
        exact z_iret C rfl (Nat.le_of_ble_eq_true rfl) (Nat.le_of_ble_eq_true rfl) d_Law_ahead_16
      · have hf := hf
        have hf := iff_f hf e0
        cases hf
  · cases q with
    | inr E0 => cases hE
    | inl z =>
      cases hE
      cases hf
      refine z_i2l C d_Law_ahead_8 ?_
      refine z_last0 C ho d_Law_ahead_9 ?_
      refine z_goto (tgt := 17) C d_Law_ahead_10 rfl ?_
      refine z_iconst C d_Law_ahead_17 zki_0 ?_
      exact z_iret C rfl (Nat.le_of_ble_eq_true rfl) (Nat.le_of_ble_eq_true rfl) d_Law_ahead_18
abbrev b_Law_bestAuthor : ByteArray := method_27_code
abbrev y_Law_bestAuthor : MethodName := ⟨"VillageWavesLaw", "bestAuthor", "(LVillageWaves;I[J)I"⟩
abbrev rm_Law_bestAuthor : Room := { frames := 8, cells := 1, slots := 6, locals := 179 }
theorem d_Law_bestAuthor_0 : decode b_Law_bestAuthor 0 = .ok (.aload_n 2, 1) := by decide +kernel
theorem d_Law_bestAuthor_1 : decode b_Law_bestAuthor 1 = .ok (.iconst 0, 1) := by decide +kernel
theorem d_Law_bestAuthor_2 : decode b_Law_bestAuthor 2 = .ok (.aload_n 0, 1) := by decide +kernel
theorem d_Law_bestAuthor_3 : decode b_Law_bestAuthor 3 = .ok (.iload_n 1, 1) := by decide +kernel
theorem d_Law_bestAuthor_4 : decode b_Law_bestAuthor 4 = .ok (.invokevirtual 94, 3) := by decide +kernel
theorem d_Law_bestAuthor_7 : decode b_Law_bestAuthor 7 = .ok (.i2l, 1) := by decide +kernel
theorem d_Law_bestAuthor_8 : decode b_Law_bestAuthor 8 = .ok (.lastore, 1) := by decide +kernel
theorem d_Law_bestAuthor_9 : decode b_Law_bestAuthor 9 = .ok (.goto 6, 3) := by decide +kernel
theorem d_Law_bestAuthor_12 : decode b_Law_bestAuthor 12 = .ok (.astore_n 3, 1) := by decide +kernel
theorem d_Law_bestAuthor_13 : decode b_Law_bestAuthor 13 = .ok (.iconst 1, 1) := by decide +kernel
theorem d_Law_bestAuthor_14 : decode b_Law_bestAuthor 14 = .ok (.ireturn, 1) := by decide +kernel
theorem d_Law_bestAuthor_15 : decode b_Law_bestAuthor 15 = .ok (.iconst 0, 1) := by decide +kernel
theorem d_Law_bestAuthor_16 : decode b_Law_bestAuthor 16 = .ok (.ireturn, 1) := by decide +kernel
def F_Law_bestAuthor (a0 : Int32) (σ : zSt) : Option (Int32 × zSt) :=
  (F_Waves_bestAuthor a0 σ).bind fun q => match q with | .inr E => (if E = "java/lang/IllegalArgumentException" then some (1, σ) else none) | .inl z => some ((0, zsl z.2 95 z.1.toInt64))
set_option maxHeartbeats 4000000 in
set_option maxRecDepth 100000 in
theorem c_Law_bestAuthor {l : Launch} (hst : l.stackTraces = false) {G : zLA} (hx : zxl G) (ho : (4, 95) ∈ zL G) {a0 : Int32} {σ σ' : zSt} {r : Int32} (hf : F_Law_bestAuthor a0 σ = some (r, σ')) : zML l G y_Law_bestAuthor (zwsW y_Law_bestAuthor b_Law_bestAuthor 4 (some .int) [(0, 9, 12, 18)]) rm_Law_bestAuthor [.ref (zad G 4 70), .int a0, .ref (zad G 4 95)] σ (some (.int r)) σ' := by
  refine z_ofML (own := "VillageWavesLaw") (lv := [(0, .ref (zad G 4 70)), (1, .int a0), (2, .ref (zad G 4 95))]) (by decide +kernel) rfl rfl (Nat.le_of_ble_eq_true rfl) (fun p e s m args below meth c C N T => ?_)
  rw [F_Law_bestAuthor] at hf
  obtain ⟨q, h1, hf⟩ := bd_s hf
  refine z_aload_n C d_Law_bestAuthor_0 2 rfl rfl ?_
  refine z_iconst C d_Law_bestAuthor_1 zki_0 ?_
  refine z_aload_n C d_Law_bestAuthor_2 0 rfl rfl ?_
  refine z_iload_n C d_Law_bestAuthor_3 1 rfl rfl ?_
  refine z_callXV C kl_Law_94 rfl (c_Waves_bestAuthor hst hx h1) (zx4 hx 70 rfl) rfl rfl rfl (Nat.le_of_ble_eq_true rfl) ⟨(Nat.le_of_ble_eq_true rfl), (Nat.le_of_ble_eq_true rfl)⟩ ⟨(Nat.le_of_ble_eq_true rfl), (Nat.le_of_ble_eq_true rfl)⟩ d_Law_bestAuthor_4 (fun E hE => ?_) (fun ov σ1 hE => ?_)
  · cases q with
    | inl z => cases hE
    | inr E0 =>
      cases hE
      by_cases e0 : E = "java/lang/IllegalArgumentException"
      · subst e0
        have hf := iff_t hf rfl
        cases hf
        refine z_catch C [] ⟨0, 9, 12, 18⟩ [] (T.trans rfl) (fun z hz => absurd hz List.not_mem_nil) (by decide +kernel) (by decide) zq840 zp850 (fun q => ?_)
        refine z_astore_n C d_Law_bestAuthor_12 rfl (by decide) ?_
        refine z_iconst C d_Law_bestAuthor_13 zki_1 ?_
        exact z_iret C rfl (Nat.le_of_ble_eq_true rfl) (Nat.le_of_ble_eq_true rfl) d_Law_bestAuthor_14
      · have hf := hf
        have hf := iff_f hf e0
        cases hf
  · cases q with
    | inr E0 => cases hE
    | inl z =>
      cases hE
      cases hf
      refine z_i2l C d_Law_bestAuthor_7 ?_
      refine z_last0 C ho d_Law_bestAuthor_8 ?_
      refine z_goto (tgt := 15) C d_Law_bestAuthor_9 rfl ?_
      refine z_iconst C d_Law_bestAuthor_15 zki_0 ?_
      exact z_iret C rfl (Nat.le_of_ble_eq_true rfl) (Nat.le_of_ble_eq_true rfl) d_Law_bestAuthor_16
abbrev b_Law_save : ByteArray := method_28_code
abbrev y_Law_save : MethodName := ⟨"VillageWavesLaw", "save", "(LVillageWaves;I)I"⟩
abbrev rm_Law_save : Room := { frames := 8, cells := 1, slots := 6, locals := 174 }
theorem d_Law_save_0 : decode b_Law_save 0 = .ok (.aload_n 0, 1) := by decide +kernel
theorem d_Law_save_1 : decode b_Law_save 1 = .ok (.iload_n 1, 1) := by decide +kernel
theorem d_Law_save_2 : decode b_Law_save 2 = .ok (.invokevirtual 97, 3) := by decide +kernel
theorem d_Law_save_5 : decode b_Law_save 5 = .ok (.goto 6, 3) := by decide +kernel
theorem d_Law_save_8 : decode b_Law_save 8 = .ok (.astore_n 2, 1) := by decide +kernel
theorem d_Law_save_9 : decode b_Law_save 9 = .ok (.iconst 1, 1) := by decide +kernel
theorem d_Law_save_10 : decode b_Law_save 10 = .ok (.ireturn, 1) := by decide +kernel
theorem d_Law_save_11 : decode b_Law_save 11 = .ok (.iconst 0, 1) := by decide +kernel
theorem d_Law_save_12 : decode b_Law_save 12 = .ok (.ireturn, 1) := by decide +kernel
def F_Law_save (a0 : Int32) (σ : zSt) : Option (Int32 × zSt) :=
  (F_Waves_save a0 σ).bind fun q => match q with | .inr E => (if E = "java/lang/IllegalArgumentException" then some (1, σ) else none) | .inl z => some ((0, z))
set_option maxHeartbeats 4000000 in
set_option maxRecDepth 100000 in
theorem c_Law_save {l : Launch} (hst : l.stackTraces = false) {G : zLA} (hx : zxl G) {a0 : Int32} {σ σ' : zSt} {r : Int32} (hf : F_Law_save a0 σ = some (r, σ')) : zML l G y_Law_save (zwsW y_Law_save b_Law_save 3 (some .int) [(0, 5, 8, 18)]) rm_Law_save [.ref (zad G 4 70), .int a0] σ (some (.int r)) σ' := by
  refine z_ofML (own := "VillageWavesLaw") (lv := [(0, .ref (zad G 4 70)), (1, .int a0)]) (by decide +kernel) rfl rfl (Nat.le_of_ble_eq_true rfl) (fun p e s m args below meth c C N T => ?_)
  rw [F_Law_save] at hf
  obtain ⟨q, h1, hf⟩ := bd_s hf
  refine z_aload_n C d_Law_save_0 0 rfl rfl ?_
  refine z_iload_n C d_Law_save_1 1 rfl rfl ?_
  refine z_callXV C kl_Law_97 rfl (c_Waves_save hst hx h1) (zx4 hx 70 rfl) rfl rfl rfl (Nat.le_of_ble_eq_true rfl) ⟨(Nat.le_of_ble_eq_true rfl), (Nat.le_of_ble_eq_true rfl)⟩ ⟨(Nat.le_of_ble_eq_true rfl), (Nat.le_of_ble_eq_true rfl)⟩ d_Law_save_2 (fun E hE => ?_) (fun ov σ1 hE => ?_)
  · cases q with
    | inl z => cases hE
    | inr E0 =>
      cases hE
      by_cases e0 : E = "java/lang/IllegalArgumentException"
      · subst e0
        have hf := iff_t hf rfl
        cases hf
        refine z_catch C [] ⟨0, 5, 8, 18⟩ [] (T.trans rfl) (fun z hz => absurd hz List.not_mem_nil) (by decide +kernel) (by decide) zq840 zp850 (fun q => ?_)
        refine z_astore_n C d_Law_save_8 rfl (by decide) ?_
        refine z_iconst C d_Law_save_9 zki_1 ?_
        exact z_iret C rfl (Nat.le_of_ble_eq_true rfl) (Nat.le_of_ble_eq_true rfl) d_Law_save_10
      · have hf := hf
        have hf := iff_f hf e0
        cases hf
  · cases q with
    | inr E0 => cases hE
    | inl z =>
      cases hE
      cases hf
      refine z_goto (tgt := 11) C d_Law_save_5 rfl ?_
      refine z_iconst C d_Law_save_11 zki_0 ?_
      exact z_iret C rfl (Nat.le_of_ble_eq_true rfl) (Nat.le_of_ble_eq_true rfl) d_Law_save_12
abbrev b_Law_restore : ByteArray := method_29_code
abbrev y_Law_restore : MethodName := ⟨"VillageWavesLaw", "restore", "(LVillageWaves;I)I"⟩
abbrev rm_Law_restore : Room := { frames := 8, cells := 2, slots := 12, locals := 174 }
theorem d_Law_restore_0 : decode b_Law_restore 0 = .ok (.aload_n 0, 1) := by decide +kernel
theorem d_Law_restore_1 : decode b_Law_restore 1 = .ok (.iload_n 1, 1) := by decide +kernel
theorem d_Law_restore_2 : decode b_Law_restore 2 = .ok (.invokevirtual 100, 3) := by decide +kernel
theorem d_Law_restore_5 : decode b_Law_restore 5 = .ok (.goto 9, 3) := by decide +kernel
theorem d_Law_restore_8 : decode b_Law_restore 8 = .ok (.astore_n 2, 1) := by decide +kernel
theorem d_Law_restore_9 : decode b_Law_restore 9 = .ok (.iconst 1, 1) := by decide +kernel
theorem d_Law_restore_10 : decode b_Law_restore 10 = .ok (.ireturn, 1) := by decide +kernel
theorem d_Law_restore_11 : decode b_Law_restore 11 = .ok (.astore_n 2, 1) := by decide +kernel
theorem d_Law_restore_12 : decode b_Law_restore 12 = .ok (.iconst 2, 1) := by decide +kernel
theorem d_Law_restore_13 : decode b_Law_restore 13 = .ok (.ireturn, 1) := by decide +kernel
theorem d_Law_restore_14 : decode b_Law_restore 14 = .ok (.iconst 0, 1) := by decide +kernel
theorem d_Law_restore_15 : decode b_Law_restore 15 = .ok (.ireturn, 1) := by decide +kernel
def F_Law_restore (a0 : Int32) (σ : zSt) : Option (Int32 × zSt) :=
  (F_Waves_restore a0 σ).bind fun q => match q with | .inr E => (if E = "java/lang/IllegalArgumentException" then some (1, σ) else (if E = "java/lang/IllegalStateException" then some (2, σ) else none)) | .inl z => some ((0, z))
set_option maxHeartbeats 4000000 in
set_option maxRecDepth 100000 in
theorem c_Law_restore {l : Launch} (hst : l.stackTraces = false) {G : zLA} (hx : zxl G) {a0 : Int32} {σ σ' : zSt} {r : Int32} (hf : F_Law_restore a0 σ = some (r, σ')) : zML l G y_Law_restore (zwsW y_Law_restore b_Law_restore 3 (some .int) [(0, 5, 8, 18), (0, 5, 11, 13)]) rm_Law_restore [.ref (zad G 4 70), .int a0] σ (some (.int r)) σ' := by
  refine z_ofML (own := "VillageWavesLaw") (lv := [(0, .ref (zad G 4 70)), (1, .int a0)]) (by decide +kernel) rfl rfl (Nat.le_of_ble_eq_true rfl) (fun p e s m args below meth c C N T => ?_)
  rw [F_Law_restore] at hf
  obtain ⟨q, h1, hf⟩ := bd_s hf
  refine z_aload_n C d_Law_restore_0 0 rfl rfl ?_
  refine z_iload_n C d_Law_restore_1 1 rfl rfl ?_
  refine z_callXV C kl_Law_100 rfl (c_Waves_restore hst hx h1) (zx4 hx 70 rfl) rfl rfl rfl (Nat.le_of_ble_eq_true rfl) ⟨(Nat.le_of_ble_eq_true rfl), (Nat.le_of_ble_eq_true rfl)⟩ ⟨(Nat.le_of_ble_eq_true rfl), (Nat.le_of_ble_eq_true rfl)⟩ d_Law_restore_2 (fun E hE => ?_) (fun ov σ1 hE => ?_)
  · cases q with
    | inl z => cases hE
    | inr E0 =>
      cases hE
      by_cases e0 : E = "java/lang/IllegalArgumentException"
      · subst e0
        have hf := iff_t hf rfl
        cases hf
        refine z_catch C [] ⟨0, 5, 8, 18⟩ [⟨0, 5, 11, 13⟩] (T.trans rfl) (fun z hz => absurd hz List.not_mem_nil) (by decide +kernel) (by decide) zq840 zp850 (fun q => ?_)
        refine z_astore_n C d_Law_restore_8 rfl (by decide) ?_
        refine z_iconst C d_Law_restore_9 zki_1 ?_
        exact z_iret C rfl (Nat.le_of_ble_eq_true rfl) (Nat.le_of_ble_eq_true rfl) d_Law_restore_10
      · have hf := hf
        by_cases e1 : E = "java/lang/IllegalStateException"
        · subst e1
          have hf := iff_f hf (by decide)
          have hf := iff_t hf rfl
          cases hf
          refine z_catch C [⟨0, 5, 8, 18⟩] ⟨0, 5, 11, 13⟩ [] (T.trans rfl) (fun z hz => by rw [List.mem_singleton.mp hz]; exact Or.inr ⟨by decide, "java/lang/IllegalArgumentException", zq840, N.1⟩) (by decide +kernel) (by decide) zq760 zp767 (fun q => ?_)
          refine z_astore_n C d_Law_restore_11 rfl (by decide) ?_
          refine z_iconst C d_Law_restore_12 zki_2 ?_
          exact z_iret C rfl (Nat.le_of_ble_eq_true rfl) (Nat.le_of_ble_eq_true rfl) d_Law_restore_13
        · have hf := hf
          have hf := iff_f hf e0
          have hf := iff_f hf e1
          cases hf
  · cases q with
    | inr E0 => cases hE
    | inl z =>
      cases hE
      cases hf
      refine z_goto (tgt := 14) C d_Law_restore_5 rfl ?_
      refine z_iconst C d_Law_restore_14 zki_0 ?_
      exact z_iret C rfl (Nat.le_of_ble_eq_true rfl) (Nat.le_of_ble_eq_true rfl) d_Law_restore_15
