theorem i_Atom_init_0 : ins m_Atom_init 0 = some (.aload_n 0, 1, 0, 0, 1) := rfl
theorem i_Atom_init_1 : ins m_Atom_init 1 = some (.invokespecial 3, 3, 9000, 0, 4) := rfl
theorem i_Atom_init_4 : ins m_Atom_init 4 = some (.aload_n 0, 1, 0, 0, 5) := rfl
theorem i_Atom_init_5 : ins m_Atom_init 5 = some (.iconst (-1), 1, 0, 0, 6) := rfl
theorem i_Atom_init_6 : ins m_Atom_init 6 = some (.putfield 9, 3, 3, 0, 9) := rfl
theorem i_Atom_init_9 : ins m_Atom_init 9 = some (.aload_n 0, 1, 0, 0, 10) := rfl
theorem i_Atom_init_10 : ins m_Atom_init 10 = some (.iconst (-1), 1, 0, 0, 11) := rfl
theorem i_Atom_init_11 : ins m_Atom_init 11 = some (.putfield 15, 3, 4, 0, 14) := rfl
theorem i_Atom_init_14 : ins m_Atom_init 14 = some (.aload_n 0, 1, 0, 0, 15) := rfl
theorem i_Atom_init_15 : ins m_Atom_init 15 = some (.iload_n 1, 1, 0, 0, 16) := rfl
theorem i_Atom_init_16 : ins m_Atom_init 16 = some (.putfield 18, 3, 0, 0, 19) := rfl
theorem i_Atom_init_19 : ins m_Atom_init 19 = some (.aload_n 0, 1, 0, 0, 20) := rfl
theorem i_Atom_init_20 : ins m_Atom_init 20 = some (.iload_n 2, 1, 0, 0, 21) := rfl
theorem i_Atom_init_21 : ins m_Atom_init 21 = some (.putfield 21, 3, 1, 0, 24) := rfl
theorem i_Atom_init_24 : ins m_Atom_init 24 = some (.aload_n 0, 1, 0, 0, 25) := rfl
theorem i_Atom_init_25 : ins m_Atom_init 25 = some (.iload_n 3, 1, 0, 0, 26) := rfl
theorem i_Atom_init_26 : ins m_Atom_init 26 = some (.putfield 24, 3, 2, 0, 29) := rfl
theorem i_Atom_init_29 : ins m_Atom_init 29 = some (.return_, 1, 0, 0, 30) := rfl
theorem i_Atom_bit_0 : ins m_Atom_bit 0 = some (.iconst 1, 1, 0, 0, 1) := rfl
theorem i_Atom_bit_1 : ins m_Atom_bit 1 = some (.aload_n 0, 1, 0, 0, 2) := rfl
theorem i_Atom_bit_2 : ins m_Atom_bit 2 = some (.getfield 24, 3, 2, 0, 5) := rfl
theorem i_Atom_bit_5 : ins m_Atom_bit 5 = some (.ishl, 1, 0, 0, 6) := rfl
theorem i_Atom_bit_6 : ins m_Atom_bit 6 = some (.ireturn, 1, 0, 0, 7) := rfl
theorem i_Grammar_init_0 : ins m_Grammar_init 0 = some (.aload_n 0, 1, 0, 0, 1) := rfl
theorem i_Grammar_init_1 : ins m_Grammar_init 1 = some (.invokespecial 3, 3, 9000, 0, 4) := rfl
theorem i_Grammar_init_4 : ins m_Grammar_init 4 = some (.aload_n 0, 1, 0, 0, 5) := rfl
theorem i_Grammar_init_5 : ins m_Grammar_init 5 = some (.bipush 8, 2, 0, 0, 7) := rfl
theorem i_Grammar_init_7 : ins m_Grammar_init 7 = some (.anewarray 9, 3, 16, 0, 10) := rfl
theorem i_Grammar_init_10 : ins m_Grammar_init 10 = some (.putfield 11, 3, 100, 0, 13) := rfl
theorem i_Grammar_init_13 : ins m_Grammar_init 13 = some (.aload_n 0, 1, 0, 0, 14) := rfl
theorem i_Grammar_init_14 : ins m_Grammar_init 14 = some (.new 17, 3, 6, 0, 17) := rfl
theorem i_Grammar_init_17 : ins m_Grammar_init 17 = some (.dup, 1, 0, 0, 18) := rfl
theorem i_Grammar_init_18 : ins m_Grammar_init 18 = some (.bipush 8, 2, 0, 0, 20) := rfl
theorem i_Grammar_init_20 : ins m_Grammar_init 20 = some (.invokespecial 19, 3, 59, 1, 23) := rfl
theorem i_Grammar_init_23 : ins m_Grammar_init 23 = some (.putfield 22, 3, 101, 0, 26) := rfl
theorem i_Grammar_init_26 : ins m_Grammar_init 26 = some (.aload_n 0, 1, 0, 0, 27) := rfl
theorem i_Grammar_init_27 : ins m_Grammar_init 27 = some (.bipush 32, 2, 0, 0, 29) := rfl
theorem i_Grammar_init_29 : ins m_Grammar_init 29 = some (.anewarray 26, 3, 15, 0, 32) := rfl
theorem i_Grammar_init_32 : ins m_Grammar_init 32 = some (.putfield 28, 3, 102, 0, 35) := rfl
theorem i_Grammar_init_35 : ins m_Grammar_init 35 = some (.aload_n 0, 1, 0, 0, 36) := rfl
theorem i_Grammar_init_36 : ins m_Grammar_init 36 = some (.new 17, 3, 6, 0, 39) := rfl
theorem i_Grammar_init_39 : ins m_Grammar_init 39 = some (.dup, 1, 0, 0, 40) := rfl
theorem i_Grammar_init_40 : ins m_Grammar_init 40 = some (.bipush 32, 2, 0, 0, 42) := rfl
theorem i_Grammar_init_42 : ins m_Grammar_init 42 = some (.invokespecial 19, 3, 59, 1, 45) := rfl
theorem i_Grammar_init_45 : ins m_Grammar_init 45 = some (.putfield 32, 3, 103, 0, 48) := rfl
theorem i_Grammar_init_48 : ins m_Grammar_init 48 = some (.aload_n 0, 1, 0, 0, 49) := rfl
theorem i_Grammar_init_49 : ins m_Grammar_init 49 = some (.iconst 0, 1, 0, 0, 50) := rfl
theorem i_Grammar_init_50 : ins m_Grammar_init 50 = some (.putfield 35, 3, 104, 0, 53) := rfl
theorem i_Grammar_init_53 : ins m_Grammar_init 53 = some (.aload_n 0, 1, 0, 0, 54) := rfl
theorem i_Grammar_init_54 : ins m_Grammar_init 54 = some (.iconst 0, 1, 0, 0, 55) := rfl
theorem i_Grammar_init_55 : ins m_Grammar_init 55 = some (.putfield 39, 3, 105, 0, 58) := rfl
theorem i_Grammar_init_58 : ins m_Grammar_init 58 = some (.aload_n 0, 1, 0, 0, 59) := rfl
theorem i_Grammar_init_59 : ins m_Grammar_init 59 = some (.iconst 0, 1, 0, 0, 60) := rfl
theorem i_Grammar_init_60 : ins m_Grammar_init 60 = some (.putfield 42, 3, 106, 0, 63) := rfl
theorem i_Grammar_init_63 : ins m_Grammar_init 63 = some (.aload_n 0, 1, 0, 0, 64) := rfl
theorem i_Grammar_init_64 : ins m_Grammar_init 64 = some (.iconst 0, 1, 0, 0, 65) := rfl
theorem i_Grammar_init_65 : ins m_Grammar_init 65 = some (.putfield 45, 3, 107, 0, 68) := rfl
theorem i_Grammar_init_68 : ins m_Grammar_init 68 = some (.aload_n 0, 1, 0, 0, 69) := rfl
theorem i_Grammar_init_69 : ins m_Grammar_init 69 = some (.getfield 22, 3, 101, 0, 72) := rfl
theorem i_Grammar_init_72 : ins m_Grammar_init 72 = some (.bipush 8, 2, 0, 0, 74) := rfl
theorem i_Grammar_init_74 : ins m_Grammar_init 74 = some (.iconst 0, 1, 0, 0, 75) := rfl
theorem i_Grammar_init_75 : ins m_Grammar_init 75 = some (.invokevirtual 48, 3, 65, 2, 78) := rfl
theorem i_Grammar_init_78 : ins m_Grammar_init 78 = some (.return_, 1, 0, 0, 79) := rfl
theorem i_Grammar_body_0 : ins m_Grammar_body 0 = some (.iload_n 1, 1, 0, 0, 1) := rfl
theorem i_Grammar_body_1 : ins m_Grammar_body 1 = some (.ifCond .lt 27, 3, 28, 0, 4) := rfl
theorem i_Grammar_body_4 : ins m_Grammar_body 4 = some (.iload_n 1, 1, 0, 0, 5) := rfl
theorem i_Grammar_body_5 : ins m_Grammar_body 5 = some (.bipush 8, 2, 0, 0, 7) := rfl
theorem i_Grammar_body_7 : ins m_Grammar_body 7 = some (.if_icmp .ge 21, 3, 28, 0, 10) := rfl
theorem i_Grammar_body_10 : ins m_Grammar_body 10 = some (.iload_n 1, 1, 0, 0, 11) := rfl
theorem i_Grammar_body_11 : ins m_Grammar_body 11 = some (.aload_n 0, 1, 0, 0, 12) := rfl
theorem i_Grammar_body_12 : ins m_Grammar_body 12 = some (.getfield 11, 3, 100, 0, 15) := rfl
theorem i_Grammar_body_15 : ins m_Grammar_body 15 = some (.arraylength, 1, 0, 0, 16) := rfl
theorem i_Grammar_body_16 : ins m_Grammar_body 16 = some (.if_icmp .ge 12, 3, 28, 0, 19) := rfl
theorem i_Grammar_body_19 : ins m_Grammar_body 19 = some (.aload_n 0, 1, 0, 0, 20) := rfl
theorem i_Grammar_body_20 : ins m_Grammar_body 20 = some (.getfield 11, 3, 100, 0, 23) := rfl
theorem i_Grammar_body_23 : ins m_Grammar_body 23 = some (.iload_n 1, 1, 0, 0, 24) := rfl
theorem i_Grammar_body_24 : ins m_Grammar_body 24 = some (.aaload, 1, 0, 0, 25) := rfl
theorem i_Grammar_body_25 : ins m_Grammar_body 25 = some (.goto 4, 3, 29, 0, 28) := rfl
theorem i_Grammar_body_28 : ins m_Grammar_body 28 = some (.aconst_null, 1, 0, 0, 29) := rfl
theorem i_Grammar_body_29 : ins m_Grammar_body 29 = some (.areturn, 1, 0, 0, 30) := rfl
theorem i_Grammar_has_0 : ins m_Grammar_has 0 = some (.aload_n 0, 1, 0, 0, 1) := rfl
theorem i_Grammar_has_1 : ins m_Grammar_has 1 = some (.iload_n 1, 1, 0, 0, 2) := rfl
theorem i_Grammar_has_2 : ins m_Grammar_has 2 = some (.invokevirtual 52, 3, 3, 1, 5) := rfl
theorem i_Grammar_has_5 : ins m_Grammar_has 5 = some (.ifnull 7, 3, 12, 0, 8) := rfl
theorem i_Grammar_has_8 : ins m_Grammar_has 8 = some (.iconst 1, 1, 0, 0, 9) := rfl
theorem i_Grammar_has_9 : ins m_Grammar_has 9 = some (.goto 4, 3, 13, 0, 12) := rfl
theorem i_Grammar_has_12 : ins m_Grammar_has 12 = some (.iconst 0, 1, 0, 0, 13) := rfl
theorem i_Grammar_has_13 : ins m_Grammar_has 13 = some (.ireturn, 1, 0, 0, 14) := rfl
theorem i_Grammar_addRule_0 : ins m_Grammar_addRule 0 = some (.iload_n 1, 1, 0, 0, 1) := rfl
theorem i_Grammar_addRule_1 : ins m_Grammar_addRule 1 = some (.ifCond .lt 38, 3, 39, 0, 4) := rfl
theorem i_Grammar_addRule_4 : ins m_Grammar_addRule 4 = some (.iload_n 1, 1, 0, 0, 5) := rfl
theorem i_Grammar_addRule_5 : ins m_Grammar_addRule 5 = some (.aload_n 0, 1, 0, 0, 6) := rfl
theorem i_Grammar_addRule_6 : ins m_Grammar_addRule 6 = some (.getfield 11, 3, 100, 0, 9) := rfl
theorem i_Grammar_addRule_9 : ins m_Grammar_addRule 9 = some (.arraylength, 1, 0, 0, 10) := rfl
theorem i_Grammar_addRule_10 : ins m_Grammar_addRule 10 = some (.if_icmp .ge 29, 3, 39, 0, 13) := rfl
theorem i_Grammar_addRule_13 : ins m_Grammar_addRule 13 = some (.aload_n 0, 1, 0, 0, 14) := rfl
theorem i_Grammar_addRule_14 : ins m_Grammar_addRule 14 = some (.getfield 11, 3, 100, 0, 17) := rfl
theorem i_Grammar_addRule_17 : ins m_Grammar_addRule 17 = some (.iload_n 1, 1, 0, 0, 18) := rfl
theorem i_Grammar_addRule_18 : ins m_Grammar_addRule 18 = some (.aload_n 2, 1, 0, 0, 19) := rfl
theorem i_Grammar_addRule_19 : ins m_Grammar_addRule 19 = some (.aastore, 1, 0, 0, 20) := rfl
theorem i_Grammar_addRule_20 : ins m_Grammar_addRule 20 = some (.aload_n 0, 1, 0, 0, 21) := rfl
theorem i_Grammar_addRule_21 : ins m_Grammar_addRule 21 = some (.getfield 22, 3, 101, 0, 24) := rfl
theorem i_Grammar_addRule_24 : ins m_Grammar_addRule 24 = some (.iload_n 1, 1, 0, 0, 25) := rfl
theorem i_Grammar_addRule_25 : ins m_Grammar_addRule 25 = some (.iload_n 3, 1, 0, 0, 26) := rfl
theorem i_Grammar_addRule_26 : ins m_Grammar_addRule 26 = some (.invokevirtual 56, 3, 62, 2, 29) := rfl
theorem i_Grammar_addRule_29 : ins m_Grammar_addRule 29 = some (.aload_n 0, 1, 0, 0, 30) := rfl
theorem i_Grammar_addRule_30 : ins m_Grammar_addRule 30 = some (.dup, 1, 0, 0, 31) := rfl
theorem i_Grammar_addRule_31 : ins m_Grammar_addRule 31 = some (.getfield 35, 3, 104, 0, 34) := rfl
theorem i_Grammar_addRule_34 : ins m_Grammar_addRule 34 = some (.iconst 1, 1, 0, 0, 35) := rfl
theorem i_Grammar_addRule_35 : ins m_Grammar_addRule 35 = some (.iadd, 1, 0, 0, 36) := rfl
theorem i_Grammar_addRule_36 : ins m_Grammar_addRule 36 = some (.putfield 35, 3, 104, 0, 39) := rfl
theorem i_Grammar_addRule_39 : ins m_Grammar_addRule 39 = some (.return_, 1, 0, 0, 40) := rfl
theorem i_Grammar_atomsWithin_0 : ins m_Grammar_atomsWithin 0 = some (.aload_n 0, 1, 0, 0, 1) := rfl
theorem i_Grammar_atomsWithin_1 : ins m_Grammar_atomsWithin 1 = some (.getfield 22, 3, 101, 0, 4) := rfl
theorem i_Grammar_atomsWithin_4 : ins m_Grammar_atomsWithin 4 = some (.iload_n 1, 1, 0, 0, 5) := rfl
theorem i_Grammar_atomsWithin_5 : ins m_Grammar_atomsWithin 5 = some (.invokevirtual 59, 3, 61, 1, 8) := rfl
theorem i_Grammar_atomsWithin_8 : ins m_Grammar_atomsWithin 8 = some (.ireturn, 1, 0, 0, 9) := rfl
theorem i_Grammar_atomAt_0 : ins m_Grammar_atomAt 0 = some (.iload_n 1, 1, 0, 0, 1) := rfl
theorem i_Grammar_atomAt_1 : ins m_Grammar_atomAt 1 = some (.ifCond .lt 29, 3, 30, 0, 4) := rfl
theorem i_Grammar_atomAt_4 : ins m_Grammar_atomAt 4 = some (.iload_n 1, 1, 0, 0, 5) := rfl
theorem i_Grammar_atomAt_5 : ins m_Grammar_atomAt 5 = some (.aload_n 0, 1, 0, 0, 6) := rfl
theorem i_Grammar_atomAt_6 : ins m_Grammar_atomAt 6 = some (.getfield 39, 3, 105, 0, 9) := rfl
theorem i_Grammar_atomAt_9 : ins m_Grammar_atomAt 9 = some (.if_icmp .ge 21, 3, 30, 0, 12) := rfl
theorem i_Grammar_atomAt_12 : ins m_Grammar_atomAt 12 = some (.iload_n 1, 1, 0, 0, 13) := rfl
theorem i_Grammar_atomAt_13 : ins m_Grammar_atomAt 13 = some (.aload_n 0, 1, 0, 0, 14) := rfl
theorem i_Grammar_atomAt_14 : ins m_Grammar_atomAt 14 = some (.getfield 28, 3, 102, 0, 17) := rfl
theorem i_Grammar_atomAt_17 : ins m_Grammar_atomAt 17 = some (.arraylength, 1, 0, 0, 18) := rfl
theorem i_Grammar_atomAt_18 : ins m_Grammar_atomAt 18 = some (.if_icmp .ge 12, 3, 30, 0, 21) := rfl
theorem i_Grammar_atomAt_21 : ins m_Grammar_atomAt 21 = some (.aload_n 0, 1, 0, 0, 22) := rfl
theorem i_Grammar_atomAt_22 : ins m_Grammar_atomAt 22 = some (.getfield 28, 3, 102, 0, 25) := rfl
theorem i_Grammar_atomAt_25 : ins m_Grammar_atomAt 25 = some (.iload_n 1, 1, 0, 0, 26) := rfl
theorem i_Grammar_atomAt_26 : ins m_Grammar_atomAt 26 = some (.aaload, 1, 0, 0, 27) := rfl
theorem i_Grammar_atomAt_27 : ins m_Grammar_atomAt 27 = some (.goto 4, 3, 31, 0, 30) := rfl
theorem i_Grammar_atomAt_30 : ins m_Grammar_atomAt 30 = some (.aconst_null, 1, 0, 0, 31) := rfl
theorem i_Grammar_atomAt_31 : ins m_Grammar_atomAt 31 = some (.areturn, 1, 0, 0, 32) := rfl
theorem i_Grammar_addAtom_0 : ins m_Grammar_addAtom 0 = some (.aload_n 0, 1, 0, 0, 1) := rfl
theorem i_Grammar_addAtom_1 : ins m_Grammar_addAtom 1 = some (.getfield 39, 3, 105, 0, 4) := rfl
theorem i_Grammar_addAtom_4 : ins m_Grammar_addAtom 4 = some (.ifCond .lt 15, 3, 19, 0, 7) := rfl
theorem i_Grammar_addAtom_7 : ins m_Grammar_addAtom 7 = some (.aload_n 0, 1, 0, 0, 8) := rfl
theorem i_Grammar_addAtom_8 : ins m_Grammar_addAtom 8 = some (.getfield 39, 3, 105, 0, 11) := rfl
theorem i_Grammar_addAtom_11 : ins m_Grammar_addAtom 11 = some (.aload_n 0, 1, 0, 0, 12) := rfl
theorem i_Grammar_addAtom_12 : ins m_Grammar_addAtom 12 = some (.getfield 28, 3, 102, 0, 15) := rfl
theorem i_Grammar_addAtom_15 : ins m_Grammar_addAtom 15 = some (.arraylength, 1, 0, 0, 16) := rfl
theorem i_Grammar_addAtom_16 : ins m_Grammar_addAtom 16 = some (.if_icmp .lt 5, 3, 21, 0, 19) := rfl
theorem i_Grammar_addAtom_19 : ins m_Grammar_addAtom 19 = some (.aconst_null, 1, 0, 0, 20) := rfl
theorem i_Grammar_addAtom_20 : ins m_Grammar_addAtom 20 = some (.areturn, 1, 0, 0, 21) := rfl
theorem i_Grammar_addAtom_21 : ins m_Grammar_addAtom 21 = some (.new 26, 3, 0, 0, 24) := rfl
theorem i_Grammar_addAtom_24 : ins m_Grammar_addAtom 24 = some (.dup, 1, 0, 0, 25) := rfl
theorem i_Grammar_addAtom_25 : ins m_Grammar_addAtom 25 = some (.iload_n 1, 1, 0, 0, 26) := rfl
theorem i_Grammar_addAtom_26 : ins m_Grammar_addAtom 26 = some (.iload_n 2, 1, 0, 0, 27) := rfl
theorem i_Grammar_addAtom_27 : ins m_Grammar_addAtom 27 = some (.aload_n 0, 1, 0, 0, 28) := rfl
theorem i_Grammar_addAtom_28 : ins m_Grammar_addAtom 28 = some (.getfield 39, 3, 105, 0, 31) := rfl
theorem i_Grammar_addAtom_31 : ins m_Grammar_addAtom 31 = some (.invokespecial 63, 3, 0, 3, 34) := rfl
theorem i_Grammar_addAtom_34 : ins m_Grammar_addAtom 34 = some (.astore_n 3, 1, 0, 0, 35) := rfl
theorem i_Grammar_addAtom_35 : ins m_Grammar_addAtom 35 = some (.aload_n 0, 1, 0, 0, 36) := rfl
theorem i_Grammar_addAtom_36 : ins m_Grammar_addAtom 36 = some (.getfield 28, 3, 102, 0, 39) := rfl
theorem i_Grammar_addAtom_39 : ins m_Grammar_addAtom 39 = some (.aload_n 0, 1, 0, 0, 40) := rfl
theorem i_Grammar_addAtom_40 : ins m_Grammar_addAtom 40 = some (.getfield 39, 3, 105, 0, 43) := rfl
theorem i_Grammar_addAtom_43 : ins m_Grammar_addAtom 43 = some (.aload_n 3, 1, 0, 0, 44) := rfl
theorem i_Grammar_addAtom_44 : ins m_Grammar_addAtom 44 = some (.aastore, 1, 0, 0, 45) := rfl
theorem i_Grammar_addAtom_45 : ins m_Grammar_addAtom 45 = some (.aload_n 0, 1, 0, 0, 46) := rfl
theorem i_Grammar_addAtom_46 : ins m_Grammar_addAtom 46 = some (.dup, 1, 0, 0, 47) := rfl
theorem i_Grammar_addAtom_47 : ins m_Grammar_addAtom 47 = some (.getfield 39, 3, 105, 0, 50) := rfl
theorem i_Grammar_addAtom_50 : ins m_Grammar_addAtom 50 = some (.iconst 1, 1, 0, 0, 51) := rfl
theorem i_Grammar_addAtom_51 : ins m_Grammar_addAtom 51 = some (.iadd, 1, 0, 0, 52) := rfl
theorem i_Grammar_addAtom_52 : ins m_Grammar_addAtom 52 = some (.putfield 39, 3, 105, 0, 55) := rfl
theorem i_Grammar_addAtom_55 : ins m_Grammar_addAtom 55 = some (.aload_n 3, 1, 0, 0, 56) := rfl
theorem i_Grammar_addAtom_56 : ins m_Grammar_addAtom 56 = some (.areturn, 1, 0, 0, 57) := rfl
theorem i_Grammar_addQuoted_0 : ins m_Grammar_addQuoted 0 = some (.aload_n 0, 1, 0, 0, 1) := rfl
theorem i_Grammar_addQuoted_1 : ins m_Grammar_addQuoted 1 = some (.getfield 32, 3, 103, 0, 4) := rfl
theorem i_Grammar_addQuoted_4 : ins m_Grammar_addQuoted 4 = some (.iload_n 1, 1, 0, 0, 5) := rfl
theorem i_Grammar_addQuoted_5 : ins m_Grammar_addQuoted 5 = some (.invokevirtual 66, 3, 63, 1, 8) := rfl
theorem i_Grammar_addQuoted_8 : ins m_Grammar_addQuoted 8 = some (.return_, 1, 0, 0, 9) := rfl
theorem i_Grammar_drawnByte_0 : ins m_Grammar_drawnByte 0 = some (.aload_n 0, 1, 0, 0, 1) := rfl
theorem i_Grammar_drawnByte_1 : ins m_Grammar_drawnByte 1 = some (.getfield 32, 3, 103, 0, 4) := rfl
theorem i_Grammar_drawnByte_4 : ins m_Grammar_drawnByte 4 = some (.invokevirtual 69, 3, 60, 0, 7) := rfl
theorem i_Grammar_drawnByte_7 : ins m_Grammar_drawnByte 7 = some (.istore_n 2, 1, 0, 0, 8) := rfl
theorem i_Grammar_drawnByte_8 : ins m_Grammar_drawnByte 8 = some (.iload_n 2, 1, 0, 0, 9) := rfl
theorem i_Grammar_drawnByte_9 : ins m_Grammar_drawnByte 9 = some (.ifCond .le 16, 3, 25, 0, 12) := rfl
theorem i_Grammar_drawnByte_12 : ins m_Grammar_drawnByte 12 = some (.aload_n 0, 1, 0, 0, 13) := rfl
theorem i_Grammar_drawnByte_13 : ins m_Grammar_drawnByte 13 = some (.getfield 32, 3, 103, 0, 16) := rfl
theorem i_Grammar_drawnByte_16 : ins m_Grammar_drawnByte 16 = some (.iload_n 1, 1, 0, 0, 17) := rfl
theorem i_Grammar_drawnByte_17 : ins m_Grammar_drawnByte 17 = some (.iload_n 2, 1, 0, 0, 18) := rfl
theorem i_Grammar_drawnByte_18 : ins m_Grammar_drawnByte 18 = some (.irem, 1, 0, 0, 19) := rfl
theorem i_Grammar_drawnByte_19 : ins m_Grammar_drawnByte 19 = some (.invokevirtual 59, 3, 61, 1, 22) := rfl
theorem i_Grammar_drawnByte_22 : ins m_Grammar_drawnByte 22 = some (.goto 10, 3, 32, 0, 25) := rfl
theorem i_Grammar_drawnByte_25 : ins m_Grammar_drawnByte 25 = some (.bipush 48, 2, 0, 0, 27) := rfl
theorem i_Grammar_drawnByte_27 : ins m_Grammar_drawnByte 27 = some (.iload_n 1, 1, 0, 0, 28) := rfl
theorem i_Grammar_drawnByte_28 : ins m_Grammar_drawnByte 28 = some (.bipush 10, 2, 0, 0, 30) := rfl
theorem i_Grammar_drawnByte_30 : ins m_Grammar_drawnByte 30 = some (.irem, 1, 0, 0, 31) := rfl
theorem i_Grammar_drawnByte_31 : ins m_Grammar_drawnByte 31 = some (.iadd, 1, 0, 0, 32) := rfl
theorem i_Grammar_drawnByte_32 : ins m_Grammar_drawnByte 32 = some (.ireturn, 1, 0, 0, 33) := rfl
theorem i_Last_init_0 : ins m_Last_init 0 = some (.aload_n 0, 1, 0, 0, 1) := rfl
theorem i_Last_init_1 : ins m_Last_init 1 = some (.invokespecial 3, 3, 9000, 0, 4) := rfl
theorem i_Last_init_4 : ins m_Last_init 4 = some (.aload_n 0, 1, 0, 0, 5) := rfl
theorem i_Last_init_5 : ins m_Last_init 5 = some (.iconst 0, 1, 0, 0, 6) := rfl
theorem i_Last_init_6 : ins m_Last_init 6 = some (.putfield 9, 3, 200, 0, 9) := rfl
theorem i_Last_init_9 : ins m_Last_init 9 = some (.aload_n 0, 1, 0, 0, 10) := rfl
theorem i_Last_init_10 : ins m_Last_init 10 = some (.iconst (-1), 1, 0, 0, 11) := rfl
theorem i_Last_init_11 : ins m_Last_init 11 = some (.putfield 15, 3, 201, 0, 14) := rfl
theorem i_Last_init_14 : ins m_Last_init 14 = some (.aload_n 0, 1, 0, 0, 15) := rfl
theorem i_Last_init_15 : ins m_Last_init 15 = some (.iconst 0, 1, 0, 0, 16) := rfl
theorem i_Last_init_16 : ins m_Last_init 16 = some (.putfield 19, 3, 202, 0, 19) := rfl
theorem i_Last_init_19 : ins m_Last_init 19 = some (.aload_n 0, 1, 0, 0, 20) := rfl
theorem i_Last_init_20 : ins m_Last_init 20 = some (.iconst 0, 1, 0, 0, 21) := rfl
theorem i_Last_init_21 : ins m_Last_init 21 = some (.putfield 22, 3, 203, 0, 24) := rfl
theorem i_Last_init_24 : ins m_Last_init 24 = some (.aload_n 0, 1, 0, 0, 25) := rfl
theorem i_Last_init_25 : ins m_Last_init 25 = some (.iconst 0, 1, 0, 0, 26) := rfl
theorem i_Last_init_26 : ins m_Last_init 26 = some (.putfield 25, 3, 204, 0, 29) := rfl
theorem i_Last_init_29 : ins m_Last_init 29 = some (.aload_n 0, 1, 0, 0, 30) := rfl
theorem i_Last_init_30 : ins m_Last_init 30 = some (.iconst 0, 1, 0, 0, 31) := rfl
theorem i_Last_init_31 : ins m_Last_init 31 = some (.putfield 28, 3, 205, 0, 34) := rfl
theorem i_Last_init_34 : ins m_Last_init 34 = some (.aload_n 0, 1, 0, 0, 35) := rfl
theorem i_Last_init_35 : ins m_Last_init 35 = some (.iconst 0, 1, 0, 0, 36) := rfl
theorem i_Last_init_36 : ins m_Last_init 36 = some (.putfield 31, 3, 206, 0, 39) := rfl
theorem i_Last_init_39 : ins m_Last_init 39 = some (.aload_n 0, 1, 0, 0, 40) := rfl
theorem i_Last_init_40 : ins m_Last_init 40 = some (.new 34, 3, 6, 0, 43) := rfl
theorem i_Last_init_43 : ins m_Last_init 43 = some (.dup, 1, 0, 0, 44) := rfl
theorem i_Last_init_44 : ins m_Last_init 44 = some (.sipush 2000, 3, 0, 0, 47) := rfl
theorem i_Last_init_47 : ins m_Last_init 47 = some (.invokespecial 36, 3, 59, 1, 50) := rfl
theorem i_Last_init_50 : ins m_Last_init 50 = some (.putfield 39, 3, 207, 0, 53) := rfl
theorem i_Last_init_53 : ins m_Last_init 53 = some (.aload_n 0, 1, 0, 0, 54) := rfl
theorem i_Last_init_54 : ins m_Last_init 54 = some (.new 34, 3, 6, 0, 57) := rfl
theorem i_Last_init_57 : ins m_Last_init 57 = some (.dup, 1, 0, 0, 58) := rfl
theorem i_Last_init_58 : ins m_Last_init 58 = some (.sipush 2000, 3, 0, 0, 61) := rfl
theorem i_Last_init_61 : ins m_Last_init 61 = some (.invokespecial 36, 3, 59, 1, 64) := rfl
theorem i_Last_init_64 : ins m_Last_init 64 = some (.putfield 43, 3, 208, 0, 67) := rfl
theorem i_Last_init_67 : ins m_Last_init 67 = some (.aload_n 0, 1, 0, 0, 68) := rfl
theorem i_Last_init_68 : ins m_Last_init 68 = some (.new 34, 3, 6, 0, 71) := rfl
theorem i_Last_init_71 : ins m_Last_init 71 = some (.dup, 1, 0, 0, 72) := rfl
theorem i_Last_init_72 : ins m_Last_init 72 = some (.sipush 2000, 3, 0, 0, 75) := rfl
theorem i_Last_init_75 : ins m_Last_init 75 = some (.invokespecial 36, 3, 59, 1, 78) := rfl
theorem i_Last_init_78 : ins m_Last_init 78 = some (.putfield 46, 3, 209, 0, 81) := rfl
theorem i_Last_init_81 : ins m_Last_init 81 = some (.aload_n 0, 1, 0, 0, 82) := rfl
theorem i_Last_init_82 : ins m_Last_init 82 = some (.new 34, 3, 6, 0, 85) := rfl
theorem i_Last_init_85 : ins m_Last_init 85 = some (.dup, 1, 0, 0, 86) := rfl
theorem i_Last_init_86 : ins m_Last_init 86 = some (.sipush 2000, 3, 0, 0, 89) := rfl
theorem i_Last_init_89 : ins m_Last_init 89 = some (.invokespecial 36, 3, 59, 1, 92) := rfl
theorem i_Last_init_92 : ins m_Last_init 92 = some (.putfield 49, 3, 210, 0, 95) := rfl
theorem i_Last_init_95 : ins m_Last_init 95 = some (.aload_n 0, 1, 0, 0, 96) := rfl
theorem i_Last_init_96 : ins m_Last_init 96 = some (.new 34, 3, 6, 0, 99) := rfl
theorem i_Last_init_99 : ins m_Last_init 99 = some (.dup, 1, 0, 0, 100) := rfl
theorem i_Last_init_100 : ins m_Last_init 100 = some (.sipush 8000, 3, 0, 0, 103) := rfl
theorem i_Last_init_103 : ins m_Last_init 103 = some (.invokespecial 36, 3, 59, 1, 106) := rfl
theorem i_Last_init_106 : ins m_Last_init 106 = some (.putfield 52, 3, 211, 0, 109) := rfl
theorem i_Last_init_109 : ins m_Last_init 109 = some (.aload_n 0, 1, 0, 0, 110) := rfl
theorem i_Last_init_110 : ins m_Last_init 110 = some (.iconst 0, 1, 0, 0, 111) := rfl
theorem i_Last_init_111 : ins m_Last_init 111 = some (.putfield 55, 3, 212, 0, 114) := rfl
theorem i_Last_init_114 : ins m_Last_init 114 = some (.return_, 1, 0, 0, 115) := rfl
theorem i_Last_forget_0 : ins m_Last_forget 0 = some (.aload_n 0, 1, 0, 0, 1) := rfl
theorem i_Last_forget_1 : ins m_Last_forget 1 = some (.iconst 0, 1, 0, 0, 2) := rfl
theorem i_Last_forget_2 : ins m_Last_forget 2 = some (.putfield 9, 3, 200, 0, 5) := rfl
theorem i_Last_forget_5 : ins m_Last_forget 5 = some (.return_, 1, 0, 0, 6) := rfl
theorem i_Last_keep_0 : ins m_Last_keep 0 = some (.aload_n 0, 1, 0, 0, 1) := rfl
theorem i_Last_keep_1 : ins m_Last_keep 1 = some (.iconst 1, 1, 0, 0, 2) := rfl
theorem i_Last_keep_2 : ins m_Last_keep 2 = some (.putfield 9, 3, 200, 0, 5) := rfl
theorem i_Last_keep_5 : ins m_Last_keep 5 = some (.aload_n 0, 1, 0, 0, 6) := rfl
theorem i_Last_keep_6 : ins m_Last_keep 6 = some (.aload_n 1, 1, 0, 0, 7) := rfl
theorem i_Last_keep_7 : ins m_Last_keep 7 = some (.getfield 58, 3, 710, 0, 10) := rfl
theorem i_Last_keep_10 : ins m_Last_keep 10 = some (.putfield 15, 3, 201, 0, 13) := rfl
theorem i_Last_keep_13 : ins m_Last_keep 13 = some (.aload_n 0, 1, 0, 0, 14) := rfl
theorem i_Last_keep_14 : ins m_Last_keep 14 = some (.aload_n 1, 1, 0, 0, 15) := rfl
theorem i_Last_keep_15 : ins m_Last_keep 15 = some (.getfield 61, 3, 711, 0, 18) := rfl
theorem i_Last_keep_18 : ins m_Last_keep 18 = some (.putfield 19, 3, 202, 0, 21) := rfl
theorem i_Last_keep_21 : ins m_Last_keep 21 = some (.aload_n 0, 1, 0, 0, 22) := rfl
theorem i_Last_keep_22 : ins m_Last_keep 22 = some (.aload_n 1, 1, 0, 0, 23) := rfl
theorem i_Last_keep_23 : ins m_Last_keep 23 = some (.getfield 62, 3, 707, 0, 26) := rfl
theorem i_Last_keep_26 : ins m_Last_keep 26 = some (.putfield 22, 3, 203, 0, 29) := rfl
theorem i_Last_keep_29 : ins m_Last_keep 29 = some (.aload_n 0, 1, 0, 0, 30) := rfl
theorem i_Last_keep_30 : ins m_Last_keep 30 = some (.aload_n 1, 1, 0, 0, 31) := rfl
theorem i_Last_keep_31 : ins m_Last_keep 31 = some (.getfield 63, 3, 709, 0, 34) := rfl
theorem i_Last_keep_34 : ins m_Last_keep 34 = some (.putfield 25, 3, 204, 0, 37) := rfl
theorem i_Last_keep_37 : ins m_Last_keep 37 = some (.aload_n 0, 1, 0, 0, 38) := rfl
theorem i_Last_keep_38 : ins m_Last_keep 38 = some (.aload_n 1, 1, 0, 0, 39) := rfl
theorem i_Last_keep_39 : ins m_Last_keep 39 = some (.getfield 64, 3, 712, 0, 42) := rfl
theorem i_Last_keep_42 : ins m_Last_keep 42 = some (.putfield 31, 3, 206, 0, 45) := rfl
theorem i_Last_keep_45 : ins m_Last_keep 45 = some (.aload_n 0, 1, 0, 0, 46) := rfl
theorem i_Last_keep_46 : ins m_Last_keep 46 = some (.aload_n 1, 1, 0, 0, 47) := rfl
theorem i_Last_keep_47 : ins m_Last_keep 47 = some (.getfield 65, 3, 703, 0, 50) := rfl
theorem i_Last_keep_50 : ins m_Last_keep 50 = some (.aload_n 1, 1, 0, 0, 51) := rfl
theorem i_Last_keep_51 : ins m_Last_keep 51 = some (.getfield 69, 3, 706, 0, 54) := rfl
theorem i_Last_keep_54 : ins m_Last_keep 54 = some (.invokevirtual 72, 3, 89, 1, 57) := rfl
theorem i_Last_keep_57 : ins m_Last_keep 57 = some (.putfield 28, 3, 205, 0, 60) := rfl
theorem i_Last_keep_60 : ins m_Last_keep 60 = some (.aload_n 0, 1, 0, 0, 61) := rfl
theorem i_Last_keep_61 : ins m_Last_keep 61 = some (.iconst 0, 1, 0, 0, 62) := rfl
theorem i_Last_keep_62 : ins m_Last_keep 62 = some (.putfield 55, 3, 212, 0, 65) := rfl
theorem i_Last_keep_65 : ins m_Last_keep 65 = some (.aload_n 0, 1, 0, 0, 66) := rfl
theorem i_Last_keep_66 : ins m_Last_keep 66 = some (.aload_n 1, 1, 0, 0, 67) := rfl
theorem i_Last_keep_67 : ins m_Last_keep 67 = some (.getfield 65, 3, 703, 0, 70) := rfl
theorem i_Last_keep_70 : ins m_Last_keep 70 = some (.aload_n 1, 1, 0, 0, 71) := rfl
theorem i_Last_keep_71 : ins m_Last_keep 71 = some (.getfield 69, 3, 706, 0, 74) := rfl
theorem i_Last_keep_74 : ins m_Last_keep 74 = some (.invokevirtual 78, 3, 14, 2, 77) := rfl
theorem i_Last_keep_77 : ins m_Last_keep 77 = some (.return_, 1, 0, 0, 78) := rfl
theorem i_Last_list_0 : ins m_Last_list 0 = some (.aload_n 1, 1, 0, 0, 1) := rfl
theorem i_Last_list_1 : ins m_Last_list 1 = some (.iload_n 2, 1, 0, 0, 2) := rfl
theorem i_Last_list_2 : ins m_Last_list 2 = some (.invokevirtual 82, 3, 88, 1, 5) := rfl
theorem i_Last_list_5 : ins m_Last_list 5 = some (.istore_n 3, 1, 0, 0, 6) := rfl
theorem i_Last_list_6 : ins m_Last_list 6 = some (.aload_n 0, 1, 0, 0, 7) := rfl
theorem i_Last_list_7 : ins m_Last_list 7 = some (.getfield 39, 3, 207, 0, 10) := rfl
theorem i_Last_list_10 : ins m_Last_list 10 = some (.iload_n 3, 1, 0, 0, 11) := rfl
theorem i_Last_list_11 : ins m_Last_list 11 = some (.iconst 0, 1, 0, 0, 12) := rfl
theorem i_Last_list_12 : ins m_Last_list 12 = some (.invokevirtual 85, 3, 65, 2, 15) := rfl
theorem i_Last_list_15 : ins m_Last_list 15 = some (.aload_n 0, 1, 0, 0, 16) := rfl
theorem i_Last_list_16 : ins m_Last_list 16 = some (.getfield 46, 3, 209, 0, 19) := rfl
theorem i_Last_list_19 : ins m_Last_list 19 = some (.iload_n 3, 1, 0, 0, 20) := rfl
theorem i_Last_list_20 : ins m_Last_list 20 = some (.iconst 0, 1, 0, 0, 21) := rfl
theorem i_Last_list_21 : ins m_Last_list 21 = some (.invokevirtual 85, 3, 65, 2, 24) := rfl
theorem i_Last_list_24 : ins m_Last_list 24 = some (.aload_n 0, 1, 0, 0, 25) := rfl
theorem i_Last_list_25 : ins m_Last_list 25 = some (.getfield 43, 3, 208, 0, 28) := rfl
theorem i_Last_list_28 : ins m_Last_list 28 = some (.iload_n 3, 1, 0, 0, 29) := rfl
theorem i_Last_list_29 : ins m_Last_list 29 = some (.iload_n 2, 1, 0, 0, 30) := rfl
theorem i_Last_list_30 : ins m_Last_list 30 = some (.invokevirtual 85, 3, 65, 2, 33) := rfl
theorem i_Last_list_33 : ins m_Last_list 33 = some (.iconst 0, 1, 0, 0, 34) := rfl
theorem i_Last_list_34 : ins m_Last_list 34 = some (.istore 4, 2, 0, 0, 36) := rfl
theorem i_Last_list_36 : ins m_Last_list 36 = some (.iload 4, 2, 0, 0, 38) := rfl
theorem i_Last_list_38 : ins m_Last_list 38 = some (.iload_n 3, 1, 0, 0, 39) := rfl
theorem i_Last_list_39 : ins m_Last_list 39 = some (.if_icmp .ge 132, 3, 171, 0, 42) := rfl
theorem i_Last_list_42 : ins m_Last_list 42 = some (.aload_n 0, 1, 0, 0, 43) := rfl
theorem i_Last_list_43 : ins m_Last_list 43 = some (.getfield 43, 3, 208, 0, 46) := rfl
theorem i_Last_list_46 : ins m_Last_list 46 = some (.iload 4, 2, 0, 0, 48) := rfl
theorem i_Last_list_48 : ins m_Last_list 48 = some (.invokevirtual 89, 3, 61, 1, 51) := rfl
theorem i_Last_list_51 : ins m_Last_list 51 = some (.istore 5, 2, 0, 0, 53) := rfl
theorem i_Last_list_53 : ins m_Last_list 53 = some (.aload_n 0, 1, 0, 0, 54) := rfl
theorem i_Last_list_54 : ins m_Last_list 54 = some (.getfield 39, 3, 207, 0, 57) := rfl
theorem i_Last_list_57 : ins m_Last_list 57 = some (.iload 4, 2, 0, 0, 59) := rfl
theorem i_Last_list_59 : ins m_Last_list 59 = some (.aload_n 1, 1, 0, 0, 60) := rfl
theorem i_Last_list_60 : ins m_Last_list 60 = some (.iload 5, 2, 0, 0, 62) := rfl
theorem i_Last_list_62 : ins m_Last_list 62 = some (.invokevirtual 92, 3, 86, 1, 65) := rfl
theorem i_Last_list_65 : ins m_Last_list 65 = some (.invokevirtual 95, 3, 62, 2, 68) := rfl
theorem i_Last_list_68 : ins m_Last_list 68 = some (.aload_n 0, 1, 0, 0, 69) := rfl
theorem i_Last_list_69 : ins m_Last_list 69 = some (.getfield 43, 3, 208, 0, 72) := rfl
theorem i_Last_list_72 : ins m_Last_list 72 = some (.iload 4, 2, 0, 0, 74) := rfl
theorem i_Last_list_74 : ins m_Last_list 74 = some (.aload_n 1, 1, 0, 0, 75) := rfl
theorem i_Last_list_75 : ins m_Last_list 75 = some (.iload 5, 2, 0, 0, 77) := rfl
theorem i_Last_list_77 : ins m_Last_list 77 = some (.invokevirtual 98, 3, 87, 1, 80) := rfl
theorem i_Last_list_80 : ins m_Last_list 80 = some (.invokevirtual 95, 3, 62, 2, 83) := rfl
theorem i_Last_list_83 : ins m_Last_list 83 = some (.iload 4, 2, 0, 0, 85) := rfl
theorem i_Last_list_85 : ins m_Last_list 85 = some (.iconst 1, 1, 0, 0, 86) := rfl
theorem i_Last_list_86 : ins m_Last_list 86 = some (.iadd, 1, 0, 0, 87) := rfl
theorem i_Last_list_87 : ins m_Last_list 87 = some (.istore 6, 2, 0, 0, 89) := rfl
theorem i_Last_list_89 : ins m_Last_list 89 = some (.aload_n 1, 1, 0, 0, 90) := rfl
theorem i_Last_list_90 : ins m_Last_list 90 = some (.iload 5, 2, 0, 0, 92) := rfl
theorem i_Last_list_92 : ins m_Last_list 92 = some (.invokevirtual 101, 3, 90, 1, 95) := rfl
theorem i_Last_list_95 : ins m_Last_list 95 = some (.istore 7, 2, 0, 0, 97) := rfl
theorem i_Last_list_97 : ins m_Last_list 97 = some (.iconst 0, 1, 0, 0, 98) := rfl
theorem i_Last_list_98 : ins m_Last_list 98 = some (.istore 8, 2, 0, 0, 100) := rfl
theorem i_Last_list_100 : ins m_Last_list 100 = some (.iload 8, 2, 0, 0, 102) := rfl
theorem i_Last_list_102 : ins m_Last_list 102 = some (.iload 7, 2, 0, 0, 104) := rfl
theorem i_Last_list_104 : ins m_Last_list 104 = some (.if_icmp .ge 61, 3, 165, 0, 107) := rfl
theorem i_Last_list_107 : ins m_Last_list 107 = some (.aload_n 1, 1, 0, 0, 108) := rfl
theorem i_Last_list_108 : ins m_Last_list 108 = some (.iload 5, 2, 0, 0, 110) := rfl
theorem i_Last_list_110 : ins m_Last_list 110 = some (.iload 8, 2, 0, 0, 112) := rfl
theorem i_Last_list_112 : ins m_Last_list 112 = some (.invokevirtual 104, 3, 91, 2, 115) := rfl
theorem i_Last_list_115 : ins m_Last_list 115 = some (.istore 9, 2, 0, 0, 117) := rfl
theorem i_Last_list_117 : ins m_Last_list 117 = some (.aload_n 0, 1, 0, 0, 118) := rfl
theorem i_Last_list_118 : ins m_Last_list 118 = some (.getfield 43, 3, 208, 0, 121) := rfl
theorem i_Last_list_121 : ins m_Last_list 121 = some (.iload 6, 2, 0, 0, 123) := rfl
theorem i_Last_list_123 : ins m_Last_list 123 = some (.iload 9, 2, 0, 0, 125) := rfl
theorem i_Last_list_125 : ins m_Last_list 125 = some (.invokevirtual 95, 3, 62, 2, 128) := rfl
theorem i_Last_list_128 : ins m_Last_list 128 = some (.aload_n 0, 1, 0, 0, 129) := rfl
theorem i_Last_list_129 : ins m_Last_list 129 = some (.getfield 46, 3, 209, 0, 132) := rfl
theorem i_Last_list_132 : ins m_Last_list 132 = some (.iload 6, 2, 0, 0, 134) := rfl
theorem i_Last_list_134 : ins m_Last_list 134 = some (.aload_n 0, 1, 0, 0, 135) := rfl
theorem i_Last_list_135 : ins m_Last_list 135 = some (.getfield 46, 3, 209, 0, 138) := rfl
theorem i_Last_list_138 : ins m_Last_list 138 = some (.iload 4, 2, 0, 0, 140) := rfl
theorem i_Last_list_140 : ins m_Last_list 140 = some (.invokevirtual 89, 3, 61, 1, 143) := rfl
theorem i_Last_list_143 : ins m_Last_list 143 = some (.iconst 1, 1, 0, 0, 144) := rfl
theorem i_Last_list_144 : ins m_Last_list 144 = some (.iadd, 1, 0, 0, 145) := rfl
theorem i_Last_list_145 : ins m_Last_list 145 = some (.invokevirtual 95, 3, 62, 2, 148) := rfl
theorem i_Last_list_148 : ins m_Last_list 148 = some (.iload 6, 2, 0, 0, 150) := rfl
theorem i_Last_list_150 : ins m_Last_list 150 = some (.aload_n 1, 1, 0, 0, 151) := rfl
theorem i_Last_list_151 : ins m_Last_list 151 = some (.iload 9, 2, 0, 0, 153) := rfl
theorem i_Last_list_153 : ins m_Last_list 153 = some (.invokevirtual 82, 3, 88, 1, 156) := rfl
theorem i_Last_list_156 : ins m_Last_list 156 = some (.iadd, 1, 0, 0, 157) := rfl
theorem i_Last_list_157 : ins m_Last_list 157 = some (.istore 6, 2, 0, 0, 159) := rfl
theorem i_Last_list_159 : ins m_Last_list 159 = some (.iinc 8 1, 3, 0, 0, 162) := rfl
theorem i_Last_list_162 : ins m_Last_list 162 = some (.goto (-62), 3, 100, 0, 165) := rfl
theorem i_Last_list_165 : ins m_Last_list 165 = some (.iinc 4 1, 3, 0, 0, 168) := rfl
theorem i_Last_list_168 : ins m_Last_list 168 = some (.goto (-132), 3, 36, 0, 171) := rfl
theorem i_Last_list_171 : ins m_Last_list 171 = some (.return_, 1, 0, 0, 172) := rfl
theorem i_Last_nodes_0 : ins m_Last_nodes 0 = some (.aload_n 0, 1, 0, 0, 1) := rfl
theorem i_Last_nodes_1 : ins m_Last_nodes 1 = some (.getfield 39, 3, 207, 0, 4) := rfl
theorem i_Last_nodes_4 : ins m_Last_nodes 4 = some (.invokevirtual 108, 3, 60, 0, 7) := rfl
theorem i_Last_nodes_7 : ins m_Last_nodes 7 = some (.ireturn, 1, 0, 0, 8) := rfl
theorem i_Last_about_0 : ins m_Last_about 0 = some (.iload_n 2, 1, 0, 0, 1) := rfl
theorem i_Last_about_1 : ins m_Last_about 1 = some (.ifCond .ne 14, 3, 15, 0, 4) := rfl
theorem i_Last_about_4 : ins m_Last_about 4 = some (.aload_n 0, 1, 0, 0, 5) := rfl
theorem i_Last_about_5 : ins m_Last_about 5 = some (.getfield 39, 3, 207, 0, 8) := rfl
theorem i_Last_about_8 : ins m_Last_about 8 = some (.iload_n 1, 1, 0, 0, 9) := rfl
theorem i_Last_about_9 : ins m_Last_about 9 = some (.invokevirtual 89, 3, 61, 1, 12) := rfl
theorem i_Last_about_12 : ins m_Last_about 12 = some (.goto 27, 3, 39, 0, 15) := rfl
theorem i_Last_about_15 : ins m_Last_about 15 = some (.iload_n 2, 1, 0, 0, 16) := rfl
theorem i_Last_about_16 : ins m_Last_about 16 = some (.iconst 1, 1, 0, 0, 17) := rfl
theorem i_Last_about_17 : ins m_Last_about 17 = some (.if_icmp .ne 14, 3, 31, 0, 20) := rfl
theorem i_Last_about_20 : ins m_Last_about 20 = some (.aload_n 0, 1, 0, 0, 21) := rfl
theorem i_Last_about_21 : ins m_Last_about 21 = some (.getfield 43, 3, 208, 0, 24) := rfl
theorem i_Last_about_24 : ins m_Last_about 24 = some (.iload_n 1, 1, 0, 0, 25) := rfl
theorem i_Last_about_25 : ins m_Last_about 25 = some (.invokevirtual 89, 3, 61, 1, 28) := rfl
theorem i_Last_about_28 : ins m_Last_about 28 = some (.goto 11, 3, 39, 0, 31) := rfl
theorem i_Last_about_31 : ins m_Last_about 31 = some (.aload_n 0, 1, 0, 0, 32) := rfl
theorem i_Last_about_32 : ins m_Last_about 32 = some (.getfield 46, 3, 209, 0, 35) := rfl
theorem i_Last_about_35 : ins m_Last_about 35 = some (.iload_n 1, 1, 0, 0, 36) := rfl
theorem i_Last_about_36 : ins m_Last_about 36 = some (.invokevirtual 89, 3, 61, 1, 39) := rfl
theorem i_Last_about_39 : ins m_Last_about 39 = some (.ireturn, 1, 0, 0, 40) := rfl
theorem i_Last_sign_0 : ins m_Last_sign 0 = some (.aload_n 0, 1, 0, 0, 1) := rfl
theorem i_Last_sign_1 : ins m_Last_sign 1 = some (.getfield 55, 3, 212, 0, 4) := rfl
theorem i_Last_sign_4 : ins m_Last_sign 4 = some (.ifCond .ne 12, 3, 16, 0, 7) := rfl
theorem i_Last_sign_7 : ins m_Last_sign 7 = some (.aload_n 0, 1, 0, 0, 8) := rfl
theorem i_Last_sign_8 : ins m_Last_sign 8 = some (.invokevirtual 112, 3, 18, 0, 11) := rfl
theorem i_Last_sign_11 : ins m_Last_sign 11 = some (.aload_n 0, 1, 0, 0, 12) := rfl
theorem i_Last_sign_12 : ins m_Last_sign 12 = some (.iconst 1, 1, 0, 0, 13) := rfl
theorem i_Last_sign_13 : ins m_Last_sign 13 = some (.putfield 55, 3, 212, 0, 16) := rfl
theorem i_Last_sign_16 : ins m_Last_sign 16 = some (.aload_n 0, 1, 0, 0, 17) := rfl
theorem i_Last_sign_17 : ins m_Last_sign 17 = some (.getfield 52, 3, 211, 0, 20) := rfl
theorem i_Last_sign_20 : ins m_Last_sign 20 = some (.iload_n 1, 1, 0, 0, 21) := rfl
theorem i_Last_sign_21 : ins m_Last_sign 21 = some (.invokevirtual 89, 3, 61, 1, 24) := rfl
theorem i_Last_sign_24 : ins m_Last_sign 24 = some (.ireturn, 1, 0, 0, 25) := rfl
theorem i_Last_spell_0 : ins m_Last_spell 0 = some (.aload_n 0, 1, 0, 0, 1) := rfl
theorem i_Last_spell_1 : ins m_Last_spell 1 = some (.getfield 52, 3, 211, 0, 4) := rfl
theorem i_Last_spell_4 : ins m_Last_spell 4 = some (.iconst 0, 1, 0, 0, 5) := rfl
theorem i_Last_spell_5 : ins m_Last_spell 5 = some (.invokevirtual 115, 3, 64, 1, 8) := rfl
theorem i_Last_spell_8 : ins m_Last_spell 8 = some (.aload_n 0, 1, 0, 0, 9) := rfl
theorem i_Last_spell_9 : ins m_Last_spell 9 = some (.getfield 49, 3, 210, 0, 12) := rfl
theorem i_Last_spell_12 : ins m_Last_spell 12 = some (.iconst 0, 1, 0, 0, 13) := rfl
theorem i_Last_spell_13 : ins m_Last_spell 13 = some (.invokevirtual 115, 3, 64, 1, 16) := rfl
theorem i_Last_spell_16 : ins m_Last_spell 16 = some (.iconst 0, 1, 0, 0, 17) := rfl
theorem i_Last_spell_17 : ins m_Last_spell 17 = some (.istore_n 1, 1, 0, 0, 18) := rfl
theorem i_Last_spell_18 : ins m_Last_spell 18 = some (.iload_n 1, 1, 0, 0, 19) := rfl
theorem i_Last_spell_19 : ins m_Last_spell 19 = some (.aload_n 0, 1, 0, 0, 20) := rfl
theorem i_Last_spell_20 : ins m_Last_spell 20 = some (.getfield 39, 3, 207, 0, 23) := rfl
theorem i_Last_spell_23 : ins m_Last_spell 23 = some (.invokevirtual 108, 3, 60, 0, 26) := rfl
theorem i_Last_spell_26 : ins m_Last_spell 26 = some (.if_icmp .ge 86, 3, 112, 0, 29) := rfl
theorem i_Last_spell_29 : ins m_Last_spell 29 = some (.aload_n 0, 1, 0, 0, 30) := rfl
theorem i_Last_spell_30 : ins m_Last_spell 30 = some (.aload_n 0, 1, 0, 0, 31) := rfl
theorem i_Last_spell_31 : ins m_Last_spell 31 = some (.getfield 46, 3, 209, 0, 34) := rfl
theorem i_Last_spell_34 : ins m_Last_spell 34 = some (.iload_n 1, 1, 0, 0, 35) := rfl
theorem i_Last_spell_35 : ins m_Last_spell 35 = some (.invokevirtual 89, 3, 61, 1, 38) := rfl
theorem i_Last_spell_38 : ins m_Last_spell 38 = some (.invokevirtual 118, 3, 19, 1, 41) := rfl
theorem i_Last_spell_41 : ins m_Last_spell 41 = some (.aload_n 0, 1, 0, 0, 42) := rfl
theorem i_Last_spell_42 : ins m_Last_spell 42 = some (.iload_n 1, 1, 0, 0, 43) := rfl
theorem i_Last_spell_43 : ins m_Last_spell 43 = some (.invokevirtual 121, 3, 20, 1, 46) := rfl
theorem i_Last_spell_46 : ins m_Last_spell 46 = some (.aload_n 0, 1, 0, 0, 47) := rfl
theorem i_Last_spell_47 : ins m_Last_spell 47 = some (.getfield 39, 3, 207, 0, 50) := rfl
theorem i_Last_spell_50 : ins m_Last_spell 50 = some (.iload_n 1, 1, 0, 0, 51) := rfl
theorem i_Last_spell_51 : ins m_Last_spell 51 = some (.invokevirtual 89, 3, 61, 1, 54) := rfl
theorem i_Last_spell_54 : ins m_Last_spell 54 = some (.ifCond .ne 18, 3, 72, 0, 57) := rfl
theorem i_Last_spell_57 : ins m_Last_spell 57 = some (.aload_n 0, 1, 0, 0, 58) := rfl
theorem i_Last_spell_58 : ins m_Last_spell 58 = some (.aload_n 0, 1, 0, 0, 59) := rfl
theorem i_Last_spell_59 : ins m_Last_spell 59 = some (.getfield 43, 3, 208, 0, 62) := rfl
theorem i_Last_spell_62 : ins m_Last_spell 62 = some (.iload_n 1, 1, 0, 0, 63) := rfl
theorem i_Last_spell_63 : ins m_Last_spell 63 = some (.invokevirtual 89, 3, 61, 1, 66) := rfl
theorem i_Last_spell_66 : ins m_Last_spell 66 = some (.invokevirtual 124, 3, 21, 1, 69) := rfl
theorem i_Last_spell_69 : ins m_Last_spell 69 = some (.goto 37, 3, 106, 0, 72) := rfl
theorem i_Last_spell_72 : ins m_Last_spell 72 = some (.aload_n 0, 1, 0, 0, 73) := rfl
theorem i_Last_spell_73 : ins m_Last_spell 73 = some (.getfield 52, 3, 211, 0, 76) := rfl
theorem i_Last_spell_76 : ins m_Last_spell 76 = some (.aload_n 0, 1, 0, 0, 77) := rfl
theorem i_Last_spell_77 : ins m_Last_spell 77 = some (.getfield 39, 3, 207, 0, 80) := rfl
theorem i_Last_spell_80 : ins m_Last_spell 80 = some (.iload_n 1, 1, 0, 0, 81) := rfl
theorem i_Last_spell_81 : ins m_Last_spell 81 = some (.invokevirtual 89, 3, 61, 1, 84) := rfl
theorem i_Last_spell_84 : ins m_Last_spell 84 = some (.iconst 1, 1, 0, 0, 85) := rfl
theorem i_Last_spell_85 : ins m_Last_spell 85 = some (.if_icmp .ne 8, 3, 93, 0, 88) := rfl
theorem i_Last_spell_88 : ins m_Last_spell 88 = some (.bipush 91, 2, 0, 0, 90) := rfl
theorem i_Last_spell_90 : ins m_Last_spell 90 = some (.goto 5, 3, 95, 0, 93) := rfl
theorem i_Last_spell_93 : ins m_Last_spell 93 = some (.bipush 40, 2, 0, 0, 95) := rfl
theorem i_Last_spell_95 : ins m_Last_spell 95 = some (.invokevirtual 127, 3, 63, 1, 98) := rfl
theorem i_Last_spell_98 : ins m_Last_spell 98 = some (.aload_n 0, 1, 0, 0, 99) := rfl
theorem i_Last_spell_99 : ins m_Last_spell 99 = some (.getfield 49, 3, 210, 0, 102) := rfl
theorem i_Last_spell_102 : ins m_Last_spell 102 = some (.iload_n 1, 1, 0, 0, 103) := rfl
theorem i_Last_spell_103 : ins m_Last_spell 103 = some (.invokevirtual 127, 3, 63, 1, 106) := rfl
theorem i_Last_spell_106 : ins m_Last_spell 106 = some (.iinc 1 1, 3, 0, 0, 109) := rfl
theorem i_Last_spell_109 : ins m_Last_spell 109 = some (.goto (-91), 3, 18, 0, 112) := rfl
theorem i_Last_spell_112 : ins m_Last_spell 112 = some (.aload_n 0, 1, 0, 0, 113) := rfl
theorem i_Last_spell_113 : ins m_Last_spell 113 = some (.iconst 0, 1, 0, 0, 114) := rfl
theorem i_Last_spell_114 : ins m_Last_spell 114 = some (.invokevirtual 118, 3, 19, 1, 117) := rfl
theorem i_Last_spell_117 : ins m_Last_spell 117 = some (.return_, 1, 0, 0, 118) := rfl
theorem i_Last_close_0 : ins m_Last_close 0 = some (.aload_n 0, 1, 0, 0, 1) := rfl
theorem i_Last_close_1 : ins m_Last_close 1 = some (.getfield 49, 3, 210, 0, 4) := rfl
theorem i_Last_close_4 : ins m_Last_close 4 = some (.invokevirtual 108, 3, 60, 0, 7) := rfl
theorem i_Last_close_7 : ins m_Last_close 7 = some (.iconst 1, 1, 0, 0, 8) := rfl
theorem i_Last_close_8 : ins m_Last_close 8 = some (.isub, 1, 0, 0, 9) := rfl
theorem i_Last_close_9 : ins m_Last_close 9 = some (.istore_n 2, 1, 0, 0, 10) := rfl
theorem i_Last_close_10 : ins m_Last_close 10 = some (.iload_n 2, 1, 0, 0, 11) := rfl
theorem i_Last_close_11 : ins m_Last_close 11 = some (.iload_n 1, 1, 0, 0, 12) := rfl
theorem i_Last_close_12 : ins m_Last_close 12 = some (.if_icmp .lt 42, 3, 54, 0, 15) := rfl
theorem i_Last_close_15 : ins m_Last_close 15 = some (.aload_n 0, 1, 0, 0, 16) := rfl
theorem i_Last_close_16 : ins m_Last_close 16 = some (.getfield 52, 3, 211, 0, 19) := rfl
theorem i_Last_close_19 : ins m_Last_close 19 = some (.aload_n 0, 1, 0, 0, 20) := rfl
theorem i_Last_close_20 : ins m_Last_close 20 = some (.getfield 39, 3, 207, 0, 23) := rfl
theorem i_Last_close_23 : ins m_Last_close 23 = some (.aload_n 0, 1, 0, 0, 24) := rfl
theorem i_Last_close_24 : ins m_Last_close 24 = some (.getfield 49, 3, 210, 0, 27) := rfl
theorem i_Last_close_27 : ins m_Last_close 27 = some (.iload_n 2, 1, 0, 0, 28) := rfl
theorem i_Last_close_28 : ins m_Last_close 28 = some (.invokevirtual 89, 3, 61, 1, 31) := rfl
theorem i_Last_close_31 : ins m_Last_close 31 = some (.invokevirtual 89, 3, 61, 1, 34) := rfl
theorem i_Last_close_34 : ins m_Last_close 34 = some (.iconst 1, 1, 0, 0, 35) := rfl
theorem i_Last_close_35 : ins m_Last_close 35 = some (.if_icmp .ne 8, 3, 43, 0, 38) := rfl
theorem i_Last_close_38 : ins m_Last_close 38 = some (.bipush 93, 2, 0, 0, 40) := rfl
theorem i_Last_close_40 : ins m_Last_close 40 = some (.goto 5, 3, 45, 0, 43) := rfl
theorem i_Last_close_43 : ins m_Last_close 43 = some (.bipush 41, 2, 0, 0, 45) := rfl
theorem i_Last_close_45 : ins m_Last_close 45 = some (.invokevirtual 127, 3, 63, 1, 48) := rfl
theorem i_Last_close_48 : ins m_Last_close 48 = some (.iinc 2 (-1), 3, 0, 0, 51) := rfl
theorem i_Last_close_51 : ins m_Last_close 51 = some (.goto (-41), 3, 10, 0, 54) := rfl
theorem i_Last_close_54 : ins m_Last_close 54 = some (.aload_n 0, 1, 0, 0, 55) := rfl
theorem i_Last_close_55 : ins m_Last_close 55 = some (.getfield 49, 3, 210, 0, 58) := rfl
theorem i_Last_close_58 : ins m_Last_close 58 = some (.iload_n 1, 1, 0, 0, 59) := rfl
theorem i_Last_close_59 : ins m_Last_close 59 = some (.invokevirtual 115, 3, 64, 1, 62) := rfl
theorem i_Last_close_62 : ins m_Last_close 62 = some (.return_, 1, 0, 0, 63) := rfl
theorem i_Last_part_0 : ins m_Last_part 0 = some (.aload_n 0, 1, 0, 0, 1) := rfl
theorem i_Last_part_1 : ins m_Last_part 1 = some (.getfield 49, 3, 210, 0, 4) := rfl
theorem i_Last_part_4 : ins m_Last_part 4 = some (.aload_n 0, 1, 0, 0, 5) := rfl
theorem i_Last_part_5 : ins m_Last_part 5 = some (.getfield 49, 3, 210, 0, 8) := rfl
theorem i_Last_part_8 : ins m_Last_part 8 = some (.invokevirtual 108, 3, 60, 0, 11) := rfl
theorem i_Last_part_11 : ins m_Last_part 11 = some (.iconst 1, 1, 0, 0, 12) := rfl
theorem i_Last_part_12 : ins m_Last_part 12 = some (.isub, 1, 0, 0, 13) := rfl
theorem i_Last_part_13 : ins m_Last_part 13 = some (.invokevirtual 89, 3, 61, 1, 16) := rfl
theorem i_Last_part_16 : ins m_Last_part 16 = some (.istore_n 2, 1, 0, 0, 17) := rfl
theorem i_Last_part_17 : ins m_Last_part 17 = some (.iload_n 2, 1, 0, 0, 18) := rfl
theorem i_Last_part_18 : ins m_Last_part 18 = some (.iconst (-1), 1, 0, 0, 19) := rfl
theorem i_Last_part_19 : ins m_Last_part 19 = some (.if_icmp .eq 10, 3, 29, 0, 22) := rfl
theorem i_Last_part_22 : ins m_Last_part 22 = some (.iload_n 2, 1, 0, 0, 23) := rfl
theorem i_Last_part_23 : ins m_Last_part 23 = some (.iload_n 1, 1, 0, 0, 24) := rfl
theorem i_Last_part_24 : ins m_Last_part 24 = some (.iconst 1, 1, 0, 0, 25) := rfl
theorem i_Last_part_25 : ins m_Last_part 25 = some (.isub, 1, 0, 0, 26) := rfl
theorem i_Last_part_26 : ins m_Last_part 26 = some (.if_icmp .ne 4, 3, 30, 0, 29) := rfl
theorem i_Last_part_29 : ins m_Last_part 29 = some (.return_, 1, 0, 0, 30) := rfl
theorem i_Last_part_30 : ins m_Last_part 30 = some (.aload_n 0, 1, 0, 0, 31) := rfl
theorem i_Last_part_31 : ins m_Last_part 31 = some (.getfield 43, 3, 208, 0, 34) := rfl
theorem i_Last_part_34 : ins m_Last_part 34 = some (.iload_n 2, 1, 0, 0, 35) := rfl
theorem i_Last_part_35 : ins m_Last_part 35 = some (.invokevirtual 89, 3, 61, 1, 38) := rfl
theorem i_Last_part_38 : ins m_Last_part 38 = some (.istore_n 3, 1, 0, 0, 39) := rfl
theorem i_Last_part_39 : ins m_Last_part 39 = some (.aload_n 0, 1, 0, 0, 40) := rfl
theorem i_Last_part_40 : ins m_Last_part 40 = some (.getfield 52, 3, 211, 0, 43) := rfl
theorem i_Last_part_43 : ins m_Last_part 43 = some (.aload_n 0, 1, 0, 0, 44) := rfl
theorem i_Last_part_44 : ins m_Last_part 44 = some (.getfield 39, 3, 207, 0, 47) := rfl
theorem i_Last_part_47 : ins m_Last_part 47 = some (.iload_n 2, 1, 0, 0, 48) := rfl
theorem i_Last_part_48 : ins m_Last_part 48 = some (.invokevirtual 89, 3, 61, 1, 51) := rfl
theorem i_Last_part_51 : ins m_Last_part 51 = some (.iconst 1, 1, 0, 0, 52) := rfl
theorem i_Last_part_52 : ins m_Last_part 52 = some (.if_icmp .ne 8, 3, 60, 0, 55) := rfl
theorem i_Last_part_55 : ins m_Last_part 55 = some (.bipush 44, 2, 0, 0, 57) := rfl
theorem i_Last_part_57 : ins m_Last_part 57 = some (.goto 13, 3, 70, 0, 60) := rfl
theorem i_Last_part_60 : ins m_Last_part 60 = some (.iload_n 3, 1, 0, 0, 61) := rfl
theorem i_Last_part_61 : ins m_Last_part 61 = some (.ifCond .ne 8, 3, 69, 0, 64) := rfl
theorem i_Last_part_64 : ins m_Last_part 64 = some (.bipush 63, 2, 0, 0, 66) := rfl
theorem i_Last_part_66 : ins m_Last_part 66 = some (.goto 4, 3, 70, 0, 69) := rfl
theorem i_Last_part_69 : ins m_Last_part 69 = some (.iload_n 3, 1, 0, 0, 70) := rfl
theorem i_Last_part_70 : ins m_Last_part 70 = some (.invokevirtual 127, 3, 63, 1, 73) := rfl
theorem i_Last_part_73 : ins m_Last_part 73 = some (.return_, 1, 0, 0, 74) := rfl
theorem i_Last_spellNumber_0 : ins m_Last_spellNumber 0 = some (.iload_n 1, 1, 0, 0, 1) := rfl
theorem i_Last_spellNumber_1 : ins m_Last_spellNumber 1 = some (.bipush 100, 2, 0, 0, 3) := rfl
theorem i_Last_spellNumber_3 : ins m_Last_spellNumber 3 = some (.if_icmp .lt 17, 3, 20, 0, 6) := rfl
theorem i_Last_spellNumber_6 : ins m_Last_spellNumber 6 = some (.aload_n 0, 1, 0, 0, 7) := rfl
theorem i_Last_spellNumber_7 : ins m_Last_spellNumber 7 = some (.getfield 52, 3, 211, 0, 10) := rfl
theorem i_Last_spellNumber_10 : ins m_Last_spellNumber 10 = some (.bipush 48, 2, 0, 0, 12) := rfl
theorem i_Last_spellNumber_12 : ins m_Last_spellNumber 12 = some (.iload_n 1, 1, 0, 0, 13) := rfl
theorem i_Last_spellNumber_13 : ins m_Last_spellNumber 13 = some (.bipush 100, 2, 0, 0, 15) := rfl
theorem i_Last_spellNumber_15 : ins m_Last_spellNumber 15 = some (.idiv, 1, 0, 0, 16) := rfl
theorem i_Last_spellNumber_16 : ins m_Last_spellNumber 16 = some (.iadd, 1, 0, 0, 17) := rfl
theorem i_Last_spellNumber_17 : ins m_Last_spellNumber 17 = some (.invokevirtual 127, 3, 63, 1, 20) := rfl
theorem i_Last_spellNumber_20 : ins m_Last_spellNumber 20 = some (.iload_n 1, 1, 0, 0, 21) := rfl
theorem i_Last_spellNumber_21 : ins m_Last_spellNumber 21 = some (.bipush 10, 2, 0, 0, 23) := rfl
theorem i_Last_spellNumber_23 : ins m_Last_spellNumber 23 = some (.if_icmp .lt 20, 3, 43, 0, 26) := rfl
theorem i_Last_spellNumber_26 : ins m_Last_spellNumber 26 = some (.aload_n 0, 1, 0, 0, 27) := rfl
theorem i_Last_spellNumber_27 : ins m_Last_spellNumber 27 = some (.getfield 52, 3, 211, 0, 30) := rfl
theorem i_Last_spellNumber_30 : ins m_Last_spellNumber 30 = some (.bipush 48, 2, 0, 0, 32) := rfl
theorem i_Last_spellNumber_32 : ins m_Last_spellNumber 32 = some (.iload_n 1, 1, 0, 0, 33) := rfl
theorem i_Last_spellNumber_33 : ins m_Last_spellNumber 33 = some (.bipush 10, 2, 0, 0, 35) := rfl
theorem i_Last_spellNumber_35 : ins m_Last_spellNumber 35 = some (.idiv, 1, 0, 0, 36) := rfl
theorem i_Last_spellNumber_36 : ins m_Last_spellNumber 36 = some (.bipush 10, 2, 0, 0, 38) := rfl
theorem i_Last_spellNumber_38 : ins m_Last_spellNumber 38 = some (.irem, 1, 0, 0, 39) := rfl
theorem i_Last_spellNumber_39 : ins m_Last_spellNumber 39 = some (.iadd, 1, 0, 0, 40) := rfl
theorem i_Last_spellNumber_40 : ins m_Last_spellNumber 40 = some (.invokevirtual 127, 3, 63, 1, 43) := rfl
theorem i_Last_spellNumber_43 : ins m_Last_spellNumber 43 = some (.aload_n 0, 1, 0, 0, 44) := rfl
theorem i_Last_spellNumber_44 : ins m_Last_spellNumber 44 = some (.getfield 52, 3, 211, 0, 47) := rfl
theorem i_Last_spellNumber_47 : ins m_Last_spellNumber 47 = some (.bipush 48, 2, 0, 0, 49) := rfl
theorem i_Last_spellNumber_49 : ins m_Last_spellNumber 49 = some (.iload_n 1, 1, 0, 0, 50) := rfl
theorem i_Last_spellNumber_50 : ins m_Last_spellNumber 50 = some (.bipush 10, 2, 0, 0, 52) := rfl
theorem i_Last_spellNumber_52 : ins m_Last_spellNumber 52 = some (.irem, 1, 0, 0, 53) := rfl
theorem i_Last_spellNumber_53 : ins m_Last_spellNumber 53 = some (.iadd, 1, 0, 0, 54) := rfl
theorem i_Last_spellNumber_54 : ins m_Last_spellNumber 54 = some (.invokevirtual 127, 3, 63, 1, 57) := rfl
theorem i_Last_spellNumber_57 : ins m_Last_spellNumber 57 = some (.return_, 1, 0, 0, 58) := rfl
theorem i_May_init_0 : ins m_May_init 0 = some (.aload_n 0, 1, 0, 0, 1) := rfl
theorem i_May_init_1 : ins m_May_init 1 = some (.invokespecial 3, 3, 9000, 0, 4) := rfl
theorem i_May_init_4 : ins m_May_init 4 = some (.aload_n 0, 1, 0, 0, 5) := rfl
theorem i_May_init_5 : ins m_May_init 5 = some (.new 9, 3, 6, 0, 8) := rfl
theorem i_May_init_8 : ins m_May_init 8 = some (.dup, 1, 0, 0, 9) := rfl
theorem i_May_init_9 : ins m_May_init 9 = some (.bipush 8, 2, 0, 0, 11) := rfl
theorem i_May_init_11 : ins m_May_init 11 = some (.invokespecial 11, 3, 59, 1, 14) := rfl
theorem i_May_init_14 : ins m_May_init 14 = some (.putfield 14, 3, 301, 0, 17) := rfl
theorem i_May_init_17 : ins m_May_init 17 = some (.aload_n 0, 1, 0, 0, 18) := rfl
theorem i_May_init_18 : ins m_May_init 18 = some (.aload_n 1, 1, 0, 0, 19) := rfl
theorem i_May_init_19 : ins m_May_init 19 = some (.putfield 20, 3, 300, 0, 22) := rfl
theorem i_May_init_22 : ins m_May_init 22 = some (.return_, 1, 0, 0, 23) := rfl
theorem i_May_find_0 : ins m_May_find 0 = some (.iconst 0, 1, 0, 0, 1) := rfl
theorem i_May_find_1 : ins m_May_find 1 = some (.istore_n 1, 1, 0, 0, 2) := rfl
theorem i_May_find_2 : ins m_May_find 2 = some (.iload_n 1, 1, 0, 0, 3) := rfl
theorem i_May_find_3 : ins m_May_find 3 = some (.bipush 8, 2, 0, 0, 5) := rfl
theorem i_May_find_5 : ins m_May_find 5 = some (.if_icmp .ge 53, 3, 58, 0, 8) := rfl
theorem i_May_find_8 : ins m_May_find 8 = some (.iconst 0, 1, 0, 0, 9) := rfl
theorem i_May_find_9 : ins m_May_find 9 = some (.istore_n 2, 1, 0, 0, 10) := rfl
theorem i_May_find_10 : ins m_May_find 10 = some (.iload_n 2, 1, 0, 0, 11) := rfl
theorem i_May_find_11 : ins m_May_find 11 = some (.bipush 8, 2, 0, 0, 13) := rfl
theorem i_May_find_13 : ins m_May_find 13 = some (.if_icmp .ge 39, 3, 52, 0, 16) := rfl
theorem i_May_find_16 : ins m_May_find 16 = some (.aload_n 0, 1, 0, 0, 17) := rfl
theorem i_May_find_17 : ins m_May_find 17 = some (.aload_n 0, 1, 0, 0, 18) := rfl
theorem i_May_find_18 : ins m_May_find 18 = some (.getfield 20, 3, 300, 0, 21) := rfl
theorem i_May_find_21 : ins m_May_find 21 = some (.iload_n 2, 1, 0, 0, 22) := rfl
theorem i_May_find_22 : ins m_May_find 22 = some (.invokevirtual 24, 3, 3, 1, 25) := rfl
theorem i_May_find_25 : ins m_May_find 25 = some (.invokevirtual 30, 3, 25, 1, 28) := rfl
theorem i_May_find_28 : ins m_May_find 28 = some (.ifCond .eq 18, 3, 46, 0, 31) := rfl
theorem i_May_find_31 : ins m_May_find 31 = some (.aload_n 0, 1, 0, 0, 32) := rfl
theorem i_May_find_32 : ins m_May_find 32 = some (.getfield 20, 3, 300, 0, 35) := rfl
theorem i_May_find_35 : ins m_May_find 35 = some (.dup, 1, 0, 0, 36) := rfl
theorem i_May_find_36 : ins m_May_find 36 = some (.getfield 34, 3, 106, 0, 39) := rfl
theorem i_May_find_39 : ins m_May_find 39 = some (.iconst 1, 1, 0, 0, 40) := rfl
theorem i_May_find_40 : ins m_May_find 40 = some (.iload_n 2, 1, 0, 0, 41) := rfl
theorem i_May_find_41 : ins m_May_find 41 = some (.ishl, 1, 0, 0, 42) := rfl
theorem i_May_find_42 : ins m_May_find 42 = some (.ior, 1, 0, 0, 43) := rfl
theorem i_May_find_43 : ins m_May_find 43 = some (.putfield 34, 3, 106, 0, 46) := rfl
theorem i_May_find_46 : ins m_May_find 46 = some (.iinc 2 1, 3, 0, 0, 49) := rfl
theorem i_May_find_49 : ins m_May_find 49 = some (.goto (-39), 3, 10, 0, 52) := rfl
theorem i_May_find_52 : ins m_May_find 52 = some (.iinc 1 1, 3, 0, 0, 55) := rfl
theorem i_May_find_55 : ins m_May_find 55 = some (.goto (-53), 3, 2, 0, 58) := rfl
theorem i_May_find_58 : ins m_May_find 58 = some (.aload_n 0, 1, 0, 0, 59) := rfl
theorem i_May_find_59 : ins m_May_find 59 = some (.getfield 14, 3, 301, 0, 62) := rfl
theorem i_May_find_62 : ins m_May_find 62 = some (.bipush 8, 2, 0, 0, 64) := rfl
theorem i_May_find_64 : ins m_May_find 64 = some (.iconst 0, 1, 0, 0, 65) := rfl
theorem i_May_find_65 : ins m_May_find 65 = some (.invokevirtual 38, 3, 65, 2, 68) := rfl
theorem i_May_find_68 : ins m_May_find 68 = some (.iconst 0, 1, 0, 0, 69) := rfl
theorem i_May_find_69 : ins m_May_find 69 = some (.istore_n 1, 1, 0, 0, 70) := rfl
theorem i_May_find_70 : ins m_May_find 70 = some (.iload_n 1, 1, 0, 0, 71) := rfl
theorem i_May_find_71 : ins m_May_find 71 = some (.bipush 8, 2, 0, 0, 73) := rfl
theorem i_May_find_73 : ins m_May_find 73 = some (.if_icmp .ge 29, 3, 102, 0, 76) := rfl
theorem i_May_find_76 : ins m_May_find 76 = some (.aload_n 0, 1, 0, 0, 77) := rfl
theorem i_May_find_77 : ins m_May_find 77 = some (.getfield 14, 3, 301, 0, 80) := rfl
theorem i_May_find_80 : ins m_May_find 80 = some (.iload_n 1, 1, 0, 0, 81) := rfl
theorem i_May_find_81 : ins m_May_find 81 = some (.aload_n 0, 1, 0, 0, 82) := rfl
theorem i_May_find_82 : ins m_May_find 82 = some (.aload_n 0, 1, 0, 0, 83) := rfl
theorem i_May_find_83 : ins m_May_find 83 = some (.getfield 20, 3, 300, 0, 86) := rfl
theorem i_May_find_86 : ins m_May_find 86 = some (.iload_n 1, 1, 0, 0, 87) := rfl
theorem i_May_find_87 : ins m_May_find 87 = some (.invokevirtual 24, 3, 3, 1, 90) := rfl
theorem i_May_find_90 : ins m_May_find 90 = some (.invokevirtual 42, 3, 28, 1, 93) := rfl
theorem i_May_find_93 : ins m_May_find 93 = some (.invokevirtual 46, 3, 62, 2, 96) := rfl
theorem i_May_find_96 : ins m_May_find 96 = some (.iinc 1 1, 3, 0, 0, 99) := rfl
theorem i_May_find_99 : ins m_May_find 99 = some (.goto (-29), 3, 70, 0, 102) := rfl
theorem i_May_find_102 : ins m_May_find 102 = some (.iconst 0, 1, 0, 0, 103) := rfl
theorem i_May_find_103 : ins m_May_find 103 = some (.istore_n 1, 1, 0, 0, 104) := rfl
theorem i_May_find_104 : ins m_May_find 104 = some (.iload_n 1, 1, 0, 0, 105) := rfl
theorem i_May_find_105 : ins m_May_find 105 = some (.bipush 8, 2, 0, 0, 107) := rfl
theorem i_May_find_107 : ins m_May_find 107 = some (.if_icmp .ge 14, 3, 121, 0, 110) := rfl
theorem i_May_find_110 : ins m_May_find 110 = some (.aload_n 0, 1, 0, 0, 111) := rfl
theorem i_May_find_111 : ins m_May_find 111 = some (.iload_n 1, 1, 0, 0, 112) := rfl
theorem i_May_find_112 : ins m_May_find 112 = some (.invokevirtual 49, 3, 24, 1, 115) := rfl
theorem i_May_find_115 : ins m_May_find 115 = some (.iinc 1 1, 3, 0, 0, 118) := rfl
theorem i_May_find_118 : ins m_May_find 118 = some (.goto (-14), 3, 104, 0, 121) := rfl
theorem i_May_find_121 : ins m_May_find 121 = some (.iconst 0, 1, 0, 0, 122) := rfl
theorem i_May_find_122 : ins m_May_find 122 = some (.istore_n 1, 1, 0, 0, 123) := rfl
theorem i_May_find_123 : ins m_May_find 123 = some (.iload_n 1, 1, 0, 0, 124) := rfl
theorem i_May_find_124 : ins m_May_find 124 = some (.bipush 8, 2, 0, 0, 126) := rfl
theorem i_May_find_126 : ins m_May_find 126 = some (.if_icmp .ge 33, 3, 159, 0, 129) := rfl
theorem i_May_find_129 : ins m_May_find 129 = some (.aload_n 0, 1, 0, 0, 130) := rfl
theorem i_May_find_130 : ins m_May_find 130 = some (.getfield 20, 3, 300, 0, 133) := rfl
theorem i_May_find_133 : ins m_May_find 133 = some (.dup, 1, 0, 0, 134) := rfl
theorem i_May_find_134 : ins m_May_find 134 = some (.getfield 52, 3, 107, 0, 137) := rfl
theorem i_May_find_137 : ins m_May_find 137 = some (.aload_n 0, 1, 0, 0, 138) := rfl
theorem i_May_find_138 : ins m_May_find 138 = some (.getfield 14, 3, 301, 0, 141) := rfl
theorem i_May_find_141 : ins m_May_find 141 = some (.iload_n 1, 1, 0, 0, 142) := rfl
theorem i_May_find_142 : ins m_May_find 142 = some (.invokevirtual 55, 3, 61, 1, 145) := rfl
theorem i_May_find_145 : ins m_May_find 145 = some (.iconst 1, 1, 0, 0, 146) := rfl
theorem i_May_find_146 : ins m_May_find 146 = some (.iload_n 1, 1, 0, 0, 147) := rfl
theorem i_May_find_147 : ins m_May_find 147 = some (.ishl, 1, 0, 0, 148) := rfl
theorem i_May_find_148 : ins m_May_find 148 = some (.iand, 1, 0, 0, 149) := rfl
theorem i_May_find_149 : ins m_May_find 149 = some (.ior, 1, 0, 0, 150) := rfl
theorem i_May_find_150 : ins m_May_find 150 = some (.putfield 52, 3, 107, 0, 153) := rfl
theorem i_May_find_153 : ins m_May_find 153 = some (.iinc 1 1, 3, 0, 0, 156) := rfl
theorem i_May_find_156 : ins m_May_find 156 = some (.goto (-33), 3, 123, 0, 159) := rfl
theorem i_May_find_159 : ins m_May_find 159 = some (.return_, 1, 0, 0, 160) := rfl
theorem i_May_join_0 : ins m_May_join 0 = some (.iconst 0, 1, 0, 0, 1) := rfl
theorem i_May_join_1 : ins m_May_join 1 = some (.istore_n 2, 1, 0, 0, 2) := rfl
theorem i_May_join_2 : ins m_May_join 2 = some (.iload_n 2, 1, 0, 0, 3) := rfl
theorem i_May_join_3 : ins m_May_join 3 = some (.bipush 8, 2, 0, 0, 5) := rfl
theorem i_May_join_5 : ins m_May_join 5 = some (.if_icmp .ge 45, 3, 50, 0, 8) := rfl
theorem i_May_join_8 : ins m_May_join 8 = some (.aload_n 0, 1, 0, 0, 9) := rfl
theorem i_May_join_9 : ins m_May_join 9 = some (.getfield 14, 3, 301, 0, 12) := rfl
theorem i_May_join_12 : ins m_May_join 12 = some (.iload_n 2, 1, 0, 0, 13) := rfl
theorem i_May_join_13 : ins m_May_join 13 = some (.invokevirtual 55, 3, 61, 1, 16) := rfl
theorem i_May_join_16 : ins m_May_join 16 = some (.istore_n 3, 1, 0, 0, 17) := rfl
theorem i_May_join_17 : ins m_May_join 17 = some (.iload_n 3, 1, 0, 0, 18) := rfl
theorem i_May_join_18 : ins m_May_join 18 = some (.iload_n 1, 1, 0, 0, 19) := rfl
theorem i_May_join_19 : ins m_May_join 19 = some (.iushr, 1, 0, 0, 20) := rfl
theorem i_May_join_20 : ins m_May_join 20 = some (.iconst 1, 1, 0, 0, 21) := rfl
theorem i_May_join_21 : ins m_May_join 21 = some (.iand, 1, 0, 0, 22) := rfl
theorem i_May_join_22 : ins m_May_join 22 = some (.iconst 1, 1, 0, 0, 23) := rfl
theorem i_May_join_23 : ins m_May_join 23 = some (.if_icmp .ne 21, 3, 44, 0, 26) := rfl
theorem i_May_join_26 : ins m_May_join 26 = some (.aload_n 0, 1, 0, 0, 27) := rfl
theorem i_May_join_27 : ins m_May_join 27 = some (.getfield 14, 3, 301, 0, 30) := rfl
theorem i_May_join_30 : ins m_May_join 30 = some (.iload_n 2, 1, 0, 0, 31) := rfl
theorem i_May_join_31 : ins m_May_join 31 = some (.iload_n 3, 1, 0, 0, 32) := rfl
theorem i_May_join_32 : ins m_May_join 32 = some (.aload_n 0, 1, 0, 0, 33) := rfl
theorem i_May_join_33 : ins m_May_join 33 = some (.getfield 14, 3, 301, 0, 36) := rfl
theorem i_May_join_36 : ins m_May_join 36 = some (.iload_n 1, 1, 0, 0, 37) := rfl
theorem i_May_join_37 : ins m_May_join 37 = some (.invokevirtual 55, 3, 61, 1, 40) := rfl
theorem i_May_join_40 : ins m_May_join 40 = some (.ior, 1, 0, 0, 41) := rfl
theorem i_May_join_41 : ins m_May_join 41 = some (.invokevirtual 46, 3, 62, 2, 44) := rfl
theorem i_May_join_44 : ins m_May_join 44 = some (.iinc 2 1, 3, 0, 0, 47) := rfl
theorem i_May_join_47 : ins m_May_join 47 = some (.goto (-45), 3, 2, 0, 50) := rfl
theorem i_May_join_50 : ins m_May_join 50 = some (.return_, 1, 0, 0, 51) := rfl
theorem i_May_altNothing_0 : ins m_May_altNothing 0 = some (.aload_n 1, 1, 0, 0, 1) := rfl
theorem i_May_altNothing_1 : ins m_May_altNothing 1 = some (.astore_n 2, 1, 0, 0, 2) := rfl
theorem i_May_altNothing_2 : ins m_May_altNothing 2 = some (.aload_n 2, 1, 0, 0, 3) := rfl
theorem i_May_altNothing_3 : ins m_May_altNothing 3 = some (.ifnull 21, 3, 24, 0, 6) := rfl
theorem i_May_altNothing_6 : ins m_May_altNothing 6 = some (.aload_n 0, 1, 0, 0, 7) := rfl
theorem i_May_altNothing_7 : ins m_May_altNothing 7 = some (.aload_n 2, 1, 0, 0, 8) := rfl
theorem i_May_altNothing_8 : ins m_May_altNothing 8 = some (.invokevirtual 59, 3, 26, 1, 11) := rfl
theorem i_May_altNothing_11 : ins m_May_altNothing 11 = some (.ifCond .eq 5, 3, 16, 0, 14) := rfl
theorem i_May_altNothing_14 : ins m_May_altNothing 14 = some (.iconst 1, 1, 0, 0, 15) := rfl
theorem i_May_altNothing_15 : ins m_May_altNothing 15 = some (.ireturn, 1, 0, 0, 16) := rfl
theorem i_May_altNothing_16 : ins m_May_altNothing 16 = some (.aload_n 2, 1, 0, 0, 17) := rfl
theorem i_May_altNothing_17 : ins m_May_altNothing 17 = some (.getfield 62, 3, 801, 0, 20) := rfl
theorem i_May_altNothing_20 : ins m_May_altNothing 20 = some (.astore_n 2, 1, 0, 0, 21) := rfl
theorem i_May_altNothing_21 : ins m_May_altNothing 21 = some (.goto (-19), 3, 2, 0, 24) := rfl
theorem i_May_altNothing_24 : ins m_May_altNothing 24 = some (.iconst 0, 1, 0, 0, 25) := rfl
theorem i_May_altNothing_25 : ins m_May_altNothing 25 = some (.ireturn, 1, 0, 0, 26) := rfl
theorem i_May_seqNothing_0 : ins m_May_seqNothing 0 = some (.aload_n 1, 1, 0, 0, 1) := rfl
theorem i_May_seqNothing_1 : ins m_May_seqNothing 1 = some (.getfield 68, 3, 800, 0, 4) := rfl
theorem i_May_seqNothing_4 : ins m_May_seqNothing 4 = some (.astore_n 2, 1, 0, 0, 5) := rfl
theorem i_May_seqNothing_5 : ins m_May_seqNothing 5 = some (.aload_n 2, 1, 0, 0, 6) := rfl
theorem i_May_seqNothing_6 : ins m_May_seqNothing 6 = some (.ifnull 21, 3, 27, 0, 9) := rfl
theorem i_May_seqNothing_9 : ins m_May_seqNothing 9 = some (.aload_n 0, 1, 0, 0, 10) := rfl
theorem i_May_seqNothing_10 : ins m_May_seqNothing 10 = some (.aload_n 2, 1, 0, 0, 11) := rfl
theorem i_May_seqNothing_11 : ins m_May_seqNothing 11 = some (.invokevirtual 72, 3, 27, 1, 14) := rfl
theorem i_May_seqNothing_14 : ins m_May_seqNothing 14 = some (.ifCond .ne 5, 3, 19, 0, 17) := rfl
theorem i_May_seqNothing_17 : ins m_May_seqNothing 17 = some (.iconst 0, 1, 0, 0, 18) := rfl
theorem i_May_seqNothing_18 : ins m_May_seqNothing 18 = some (.ireturn, 1, 0, 0, 19) := rfl
theorem i_May_seqNothing_19 : ins m_May_seqNothing 19 = some (.aload_n 2, 1, 0, 0, 20) := rfl
theorem i_May_seqNothing_20 : ins m_May_seqNothing 20 = some (.getfield 76, 3, 406, 0, 23) := rfl
theorem i_May_seqNothing_23 : ins m_May_seqNothing 23 = some (.astore_n 2, 1, 0, 0, 24) := rfl
theorem i_May_seqNothing_24 : ins m_May_seqNothing 24 = some (.goto (-19), 3, 5, 0, 27) := rfl
theorem i_May_seqNothing_27 : ins m_May_seqNothing 27 = some (.iconst 1, 1, 0, 0, 28) := rfl
theorem i_May_seqNothing_28 : ins m_May_seqNothing 28 = some (.ireturn, 1, 0, 0, 29) := rfl
theorem i_May_itemNothing_0 : ins m_May_itemNothing 0 = some (.aload_n 1, 1, 0, 0, 1) := rfl
theorem i_May_itemNothing_1 : ins m_May_itemNothing 1 = some (.getfield 80, 3, 401, 0, 4) := rfl
theorem i_May_itemNothing_4 : ins m_May_itemNothing 4 = some (.bipush 42, 2, 0, 0, 6) := rfl
theorem i_May_itemNothing_6 : ins m_May_itemNothing 6 = some (.if_icmp .eq 12, 3, 18, 0, 9) := rfl
theorem i_May_itemNothing_9 : ins m_May_itemNothing 9 = some (.aload_n 1, 1, 0, 0, 10) := rfl
theorem i_May_itemNothing_10 : ins m_May_itemNothing 10 = some (.getfield 80, 3, 401, 0, 13) := rfl
theorem i_May_itemNothing_13 : ins m_May_itemNothing 13 = some (.bipush 63, 2, 0, 0, 15) := rfl
theorem i_May_itemNothing_15 : ins m_May_itemNothing 15 = some (.if_icmp .ne 5, 3, 20, 0, 18) := rfl
theorem i_May_itemNothing_18 : ins m_May_itemNothing 18 = some (.iconst 1, 1, 0, 0, 19) := rfl
theorem i_May_itemNothing_19 : ins m_May_itemNothing 19 = some (.ireturn, 1, 0, 0, 20) := rfl
theorem i_May_itemNothing_20 : ins m_May_itemNothing 20 = some (.aload_n 1, 1, 0, 0, 21) := rfl
theorem i_May_itemNothing_21 : ins m_May_itemNothing 21 = some (.getfield 83, 3, 400, 0, 24) := rfl
theorem i_May_itemNothing_24 : ins m_May_itemNothing 24 = some (.tableswitch 96 0 12 #[68, 68, 68, 68, 70, 70, 96, 70, 96, 70, 96, 96, 72], 68, 0, 0, 92) := rfl
theorem i_May_itemNothing_92 : ins m_May_itemNothing 92 = some (.iconst 0, 1, 0, 0, 93) := rfl
theorem i_May_itemNothing_93 : ins m_May_itemNothing 93 = some (.ireturn, 1, 0, 0, 94) := rfl
theorem i_May_itemNothing_94 : ins m_May_itemNothing 94 = some (.iconst 1, 1, 0, 0, 95) := rfl
theorem i_May_itemNothing_95 : ins m_May_itemNothing 95 = some (.ireturn, 1, 0, 0, 96) := rfl
theorem i_May_itemNothing_96 : ins m_May_itemNothing 96 = some (.aload_n 0, 1, 0, 0, 97) := rfl
theorem i_May_itemNothing_97 : ins m_May_itemNothing 97 = some (.getfield 20, 3, 300, 0, 100) := rfl
theorem i_May_itemNothing_100 : ins m_May_itemNothing 100 = some (.getfield 34, 3, 106, 0, 103) := rfl
theorem i_May_itemNothing_103 : ins m_May_itemNothing 103 = some (.aload_n 1, 1, 0, 0, 104) := rfl
theorem i_May_itemNothing_104 : ins m_May_itemNothing 104 = some (.getfield 86, 3, 403, 0, 107) := rfl
theorem i_May_itemNothing_107 : ins m_May_itemNothing 107 = some (.iushr, 1, 0, 0, 108) := rfl
theorem i_May_itemNothing_108 : ins m_May_itemNothing 108 = some (.iconst 1, 1, 0, 0, 109) := rfl
theorem i_May_itemNothing_109 : ins m_May_itemNothing 109 = some (.iand, 1, 0, 0, 110) := rfl
theorem i_May_itemNothing_110 : ins m_May_itemNothing 110 = some (.iconst 1, 1, 0, 0, 111) := rfl
theorem i_May_itemNothing_111 : ins m_May_itemNothing 111 = some (.if_icmp .ne 7, 3, 118, 0, 114) := rfl
theorem i_May_itemNothing_114 : ins m_May_itemNothing 114 = some (.iconst 1, 1, 0, 0, 115) := rfl
theorem i_May_itemNothing_115 : ins m_May_itemNothing 115 = some (.goto 4, 3, 119, 0, 118) := rfl
theorem i_May_itemNothing_118 : ins m_May_itemNothing 118 = some (.iconst 0, 1, 0, 0, 119) := rfl
theorem i_May_itemNothing_119 : ins m_May_itemNothing 119 = some (.ireturn, 1, 0, 0, 120) := rfl
theorem i_May_itemNothing_120 : ins m_May_itemNothing 120 = some (.aload_n 0, 1, 0, 0, 121) := rfl
theorem i_May_itemNothing_121 : ins m_May_itemNothing 121 = some (.aload_n 1, 1, 0, 0, 122) := rfl
theorem i_May_itemNothing_122 : ins m_May_itemNothing 122 = some (.getfield 89, 3, 404, 0, 125) := rfl
theorem i_May_itemNothing_125 : ins m_May_itemNothing 125 = some (.invokevirtual 30, 3, 25, 1, 128) := rfl
theorem i_May_itemNothing_128 : ins m_May_itemNothing 128 = some (.ireturn, 1, 0, 0, 129) := rfl
theorem i_May_altHeads_0 : ins m_May_altHeads 0 = some (.iconst 0, 1, 0, 0, 1) := rfl
theorem i_May_altHeads_1 : ins m_May_altHeads 1 = some (.istore_n 2, 1, 0, 0, 2) := rfl
theorem i_May_altHeads_2 : ins m_May_altHeads 2 = some (.aload_n 1, 1, 0, 0, 3) := rfl
theorem i_May_altHeads_3 : ins m_May_altHeads 3 = some (.astore_n 3, 1, 0, 0, 4) := rfl
theorem i_May_altHeads_4 : ins m_May_altHeads 4 = some (.aload_n 3, 1, 0, 0, 5) := rfl
theorem i_May_altHeads_5 : ins m_May_altHeads 5 = some (.ifnull 53, 3, 58, 0, 8) := rfl
theorem i_May_altHeads_8 : ins m_May_altHeads 8 = some (.aload_n 3, 1, 0, 0, 9) := rfl
theorem i_May_altHeads_9 : ins m_May_altHeads 9 = some (.getfield 68, 3, 800, 0, 12) := rfl
theorem i_May_altHeads_12 : ins m_May_altHeads 12 = some (.astore 4, 2, 0, 0, 14) := rfl
theorem i_May_altHeads_14 : ins m_May_altHeads 14 = some (.aload 4, 2, 0, 0, 16) := rfl
theorem i_May_altHeads_16 : ins m_May_altHeads 16 = some (.ifnull 34, 3, 50, 0, 19) := rfl
theorem i_May_altHeads_19 : ins m_May_altHeads 19 = some (.iload_n 2, 1, 0, 0, 20) := rfl
theorem i_May_altHeads_20 : ins m_May_altHeads 20 = some (.aload_n 0, 1, 0, 0, 21) := rfl
theorem i_May_altHeads_21 : ins m_May_altHeads 21 = some (.aload 4, 2, 0, 0, 23) := rfl
theorem i_May_altHeads_23 : ins m_May_altHeads 23 = some (.invokevirtual 91, 3, 29, 1, 26) := rfl
theorem i_May_altHeads_26 : ins m_May_altHeads 26 = some (.ior, 1, 0, 0, 27) := rfl
theorem i_May_altHeads_27 : ins m_May_altHeads 27 = some (.istore_n 2, 1, 0, 0, 28) := rfl
theorem i_May_altHeads_28 : ins m_May_altHeads 28 = some (.aload_n 0, 1, 0, 0, 29) := rfl
theorem i_May_altHeads_29 : ins m_May_altHeads 29 = some (.aload 4, 2, 0, 0, 31) := rfl
theorem i_May_altHeads_31 : ins m_May_altHeads 31 = some (.invokevirtual 72, 3, 27, 1, 34) := rfl
theorem i_May_altHeads_34 : ins m_May_altHeads 34 = some (.ifCond .ne 6, 3, 40, 0, 37) := rfl
theorem i_May_altHeads_37 : ins m_May_altHeads 37 = some (.goto 13, 3, 50, 0, 40) := rfl
theorem i_May_altHeads_40 : ins m_May_altHeads 40 = some (.aload 4, 2, 0, 0, 42) := rfl
theorem i_May_altHeads_42 : ins m_May_altHeads 42 = some (.getfield 76, 3, 406, 0, 45) := rfl
theorem i_May_altHeads_45 : ins m_May_altHeads 45 = some (.astore 4, 2, 0, 0, 47) := rfl
theorem i_May_altHeads_47 : ins m_May_altHeads 47 = some (.goto (-33), 3, 14, 0, 50) := rfl
theorem i_May_altHeads_50 : ins m_May_altHeads 50 = some (.aload_n 3, 1, 0, 0, 51) := rfl
theorem i_May_altHeads_51 : ins m_May_altHeads 51 = some (.getfield 62, 3, 801, 0, 54) := rfl
theorem i_May_altHeads_54 : ins m_May_altHeads 54 = some (.astore_n 3, 1, 0, 0, 55) := rfl
theorem i_May_altHeads_55 : ins m_May_altHeads 55 = some (.goto (-51), 3, 4, 0, 58) := rfl
theorem i_May_altHeads_58 : ins m_May_altHeads 58 = some (.iload_n 2, 1, 0, 0, 59) := rfl
theorem i_May_altHeads_59 : ins m_May_altHeads 59 = some (.ireturn, 1, 0, 0, 60) := rfl
theorem i_May_partHeads_0 : ins m_May_partHeads 0 = some (.aload_n 1, 1, 0, 0, 1) := rfl
theorem i_May_partHeads_1 : ins m_May_partHeads 1 = some (.getfield 83, 3, 400, 0, 4) := rfl
theorem i_May_partHeads_4 : ins m_May_partHeads 4 = some (.bipush 12, 2, 0, 0, 6) := rfl
theorem i_May_partHeads_6 : ins m_May_partHeads 6 = some (.if_icmp .ne 10, 3, 16, 0, 9) := rfl
theorem i_May_partHeads_9 : ins m_May_partHeads 9 = some (.iconst 1, 1, 0, 0, 10) := rfl
theorem i_May_partHeads_10 : ins m_May_partHeads 10 = some (.aload_n 1, 1, 0, 0, 11) := rfl
theorem i_May_partHeads_11 : ins m_May_partHeads 11 = some (.getfield 86, 3, 403, 0, 14) := rfl
theorem i_May_partHeads_14 : ins m_May_partHeads 14 = some (.ishl, 1, 0, 0, 15) := rfl
theorem i_May_partHeads_15 : ins m_May_partHeads 15 = some (.ireturn, 1, 0, 0, 16) := rfl
theorem i_May_partHeads_16 : ins m_May_partHeads 16 = some (.aload_n 0, 1, 0, 0, 17) := rfl
theorem i_May_partHeads_17 : ins m_May_partHeads 17 = some (.aload_n 1, 1, 0, 0, 18) := rfl
theorem i_May_partHeads_18 : ins m_May_partHeads 18 = some (.getfield 89, 3, 404, 0, 21) := rfl
theorem i_May_partHeads_21 : ins m_May_partHeads 21 = some (.invokevirtual 42, 3, 28, 1, 24) := rfl
theorem i_May_partHeads_24 : ins m_May_partHeads 24 = some (.istore_n 2, 1, 0, 0, 25) := rfl
theorem i_May_partHeads_25 : ins m_May_partHeads 25 = some (.aload_n 1, 1, 0, 0, 26) := rfl
theorem i_May_partHeads_26 : ins m_May_partHeads 26 = some (.getfield 83, 3, 400, 0, 29) := rfl
theorem i_May_partHeads_29 : ins m_May_partHeads 29 = some (.bipush 10, 2, 0, 0, 31) := rfl
theorem i_May_partHeads_31 : ins m_May_partHeads 31 = some (.if_icmp .ne 27, 3, 58, 0, 34) := rfl
theorem i_May_partHeads_34 : ins m_May_partHeads 34 = some (.aload_n 0, 1, 0, 0, 35) := rfl
theorem i_May_partHeads_35 : ins m_May_partHeads 35 = some (.aload_n 1, 1, 0, 0, 36) := rfl
theorem i_May_partHeads_36 : ins m_May_partHeads 36 = some (.getfield 89, 3, 404, 0, 39) := rfl
theorem i_May_partHeads_39 : ins m_May_partHeads 39 = some (.invokevirtual 30, 3, 25, 1, 42) := rfl
theorem i_May_partHeads_42 : ins m_May_partHeads 42 = some (.ifCond .eq 16, 3, 58, 0, 45) := rfl
theorem i_May_partHeads_45 : ins m_May_partHeads 45 = some (.iload_n 2, 1, 0, 0, 46) := rfl
theorem i_May_partHeads_46 : ins m_May_partHeads 46 = some (.aload_n 0, 1, 0, 0, 47) := rfl
theorem i_May_partHeads_47 : ins m_May_partHeads 47 = some (.aload_n 1, 1, 0, 0, 48) := rfl
theorem i_May_partHeads_48 : ins m_May_partHeads 48 = some (.getfield 95, 3, 405, 0, 51) := rfl
theorem i_May_partHeads_51 : ins m_May_partHeads 51 = some (.invokevirtual 42, 3, 28, 1, 54) := rfl
theorem i_May_partHeads_54 : ins m_May_partHeads 54 = some (.ior, 1, 0, 0, 55) := rfl
theorem i_May_partHeads_55 : ins m_May_partHeads 55 = some (.goto 4, 3, 59, 0, 58) := rfl
theorem i_May_partHeads_58 : ins m_May_partHeads 58 = some (.iload_n 2, 1, 0, 0, 59) := rfl
theorem i_May_partHeads_59 : ins m_May_partHeads 59 = some (.ireturn, 1, 0, 0, 60) := rfl
theorem i_Part_init_0 : ins m_Part_init 0 = some (.aload_n 0, 1, 0, 0, 1) := rfl
theorem i_Part_init_1 : ins m_Part_init 1 = some (.invokespecial 3, 3, 9000, 0, 4) := rfl
theorem i_Part_init_4 : ins m_Part_init 4 = some (.aload_n 0, 1, 0, 0, 5) := rfl
theorem i_Part_init_5 : ins m_Part_init 5 = some (.iconst 0, 1, 0, 0, 6) := rfl
theorem i_Part_init_6 : ins m_Part_init 6 = some (.putfield 9, 3, 401, 0, 9) := rfl
theorem i_Part_init_9 : ins m_Part_init 9 = some (.aload_n 0, 1, 0, 0, 10) := rfl
theorem i_Part_init_10 : ins m_Part_init 10 = some (.aconst_null, 1, 0, 0, 11) := rfl
theorem i_Part_init_11 : ins m_Part_init 11 = some (.putfield 15, 3, 402, 0, 14) := rfl
theorem i_Part_init_14 : ins m_Part_init 14 = some (.aload_n 0, 1, 0, 0, 15) := rfl
theorem i_Part_init_15 : ins m_Part_init 15 = some (.iconst (-1), 1, 0, 0, 16) := rfl
theorem i_Part_init_16 : ins m_Part_init 16 = some (.putfield 19, 3, 403, 0, 19) := rfl
theorem i_Part_init_19 : ins m_Part_init 19 = some (.aload_n 0, 1, 0, 0, 20) := rfl
theorem i_Part_init_20 : ins m_Part_init 20 = some (.aconst_null, 1, 0, 0, 21) := rfl
theorem i_Part_init_21 : ins m_Part_init 21 = some (.putfield 22, 3, 404, 0, 24) := rfl
theorem i_Part_init_24 : ins m_Part_init 24 = some (.aload_n 0, 1, 0, 0, 25) := rfl
theorem i_Part_init_25 : ins m_Part_init 25 = some (.aconst_null, 1, 0, 0, 26) := rfl
theorem i_Part_init_26 : ins m_Part_init 26 = some (.putfield 26, 3, 405, 0, 29) := rfl
theorem i_Part_init_29 : ins m_Part_init 29 = some (.aload_n 0, 1, 0, 0, 30) := rfl
theorem i_Part_init_30 : ins m_Part_init 30 = some (.aconst_null, 1, 0, 0, 31) := rfl
theorem i_Part_init_31 : ins m_Part_init 31 = some (.putfield 29, 3, 406, 0, 34) := rfl
theorem i_Part_init_34 : ins m_Part_init 34 = some (.aload_n 0, 1, 0, 0, 35) := rfl
theorem i_Part_init_35 : ins m_Part_init 35 = some (.iload_n 1, 1, 0, 0, 36) := rfl
theorem i_Part_init_36 : ins m_Part_init 36 = some (.putfield 33, 3, 400, 0, 39) := rfl
theorem i_Part_init_39 : ins m_Part_init 39 = some (.return_, 1, 0, 0, 40) := rfl
theorem i_Part_justQuoted_0 : ins m_Part_justQuoted 0 = some (.aload_n 0, 1, 0, 0, 1) := rfl
theorem i_Part_justQuoted_1 : ins m_Part_justQuoted 1 = some (.getfield 33, 3, 400, 0, 4) := rfl
theorem i_Part_justQuoted_4 : ins m_Part_justQuoted 4 = some (.ifCond .ne 14, 3, 18, 0, 7) := rfl
theorem i_Part_justQuoted_7 : ins m_Part_justQuoted 7 = some (.aload_n 0, 1, 0, 0, 8) := rfl
theorem i_Part_justQuoted_8 : ins m_Part_justQuoted 8 = some (.getfield 9, 3, 401, 0, 11) := rfl
theorem i_Part_justQuoted_11 : ins m_Part_justQuoted 11 = some (.ifCond .ne 7, 3, 18, 0, 14) := rfl
theorem i_Part_justQuoted_14 : ins m_Part_justQuoted 14 = some (.iconst 1, 1, 0, 0, 15) := rfl
theorem i_Part_justQuoted_15 : ins m_Part_justQuoted 15 = some (.goto 4, 3, 19, 0, 18) := rfl
theorem i_Part_justQuoted_18 : ins m_Part_justQuoted 18 = some (.iconst 0, 1, 0, 0, 19) := rfl
theorem i_Part_justQuoted_19 : ins m_Part_justQuoted 19 = some (.ireturn, 1, 0, 0, 20) := rfl
theorem i_Reader_init_0 : ins m_Reader_init 0 = some (.aload_n 0, 1, 0, 0, 1) := rfl
theorem i_Reader_init_1 : ins m_Reader_init 1 = some (.invokespecial 3, 3, 9000, 0, 4) := rfl
theorem i_Reader_init_4 : ins m_Reader_init 4 = some (.aload_n 0, 1, 0, 0, 5) := rfl
theorem i_Reader_init_5 : ins m_Reader_init 5 = some (.new 9, 3, 1, 0, 8) := rfl
theorem i_Reader_init_8 : ins m_Reader_init 8 = some (.dup, 1, 0, 0, 9) := rfl
theorem i_Reader_init_9 : ins m_Reader_init 9 = some (.invokespecial 11, 3, 2, 0, 12) := rfl
theorem i_Reader_init_12 : ins m_Reader_init 12 = some (.putfield 12, 3, 501, 0, 15) := rfl
theorem i_Reader_init_15 : ins m_Reader_init 15 = some (.aload_n 0, 1, 0, 0, 16) := rfl
theorem i_Reader_init_16 : ins m_Reader_init 16 = some (.new 18, 3, 6, 0, 19) := rfl
theorem i_Reader_init_19 : ins m_Reader_init 19 = some (.dup, 1, 0, 0, 20) := rfl
theorem i_Reader_init_20 : ins m_Reader_init 20 = some (.bipush 8, 2, 0, 0, 22) := rfl
theorem i_Reader_init_22 : ins m_Reader_init 22 = some (.invokespecial 20, 3, 59, 1, 25) := rfl
theorem i_Reader_init_25 : ins m_Reader_init 25 = some (.putfield 23, 3, 502, 0, 28) := rfl
theorem i_Reader_init_28 : ins m_Reader_init 28 = some (.aload_n 0, 1, 0, 0, 29) := rfl
theorem i_Reader_init_29 : ins m_Reader_init 29 = some (.iconst 0, 1, 0, 0, 30) := rfl
theorem i_Reader_init_30 : ins m_Reader_init 30 = some (.putfield 27, 3, 503, 0, 33) := rfl
theorem i_Reader_init_33 : ins m_Reader_init 33 = some (.aload_n 0, 1, 0, 0, 34) := rfl
theorem i_Reader_init_34 : ins m_Reader_init 34 = some (.iconst 0, 1, 0, 0, 35) := rfl
theorem i_Reader_init_35 : ins m_Reader_init 35 = some (.putfield 31, 3, 504, 0, 38) := rfl
theorem i_Reader_init_38 : ins m_Reader_init 38 = some (.aload_n 0, 1, 0, 0, 39) := rfl
theorem i_Reader_init_39 : ins m_Reader_init 39 = some (.iconst (-1), 1, 0, 0, 40) := rfl
theorem i_Reader_init_40 : ins m_Reader_init 40 = some (.putfield 34, 3, 505, 0, 43) := rfl
theorem i_Reader_init_43 : ins m_Reader_init 43 = some (.aload_n 0, 1, 0, 0, 44) := rfl
theorem i_Reader_init_44 : ins m_Reader_init 44 = some (.aload_n 1, 1, 0, 0, 45) := rfl
theorem i_Reader_init_45 : ins m_Reader_init 45 = some (.putfield 37, 3, 500, 0, 48) := rfl
theorem i_Reader_init_48 : ins m_Reader_init 48 = some (.aload_n 0, 1, 0, 0, 49) := rfl
theorem i_Reader_init_49 : ins m_Reader_init 49 = some (.getfield 23, 3, 502, 0, 52) := rfl
theorem i_Reader_init_52 : ins m_Reader_init 52 = some (.bipush 8, 2, 0, 0, 54) := rfl
theorem i_Reader_init_54 : ins m_Reader_init 54 = some (.iconst (-1), 1, 0, 0, 55) := rfl
theorem i_Reader_init_55 : ins m_Reader_init 55 = some (.invokevirtual 40, 3, 65, 2, 58) := rfl
theorem i_Reader_init_58 : ins m_Reader_init 58 = some (.return_, 1, 0, 0, 59) := rfl
theorem i_Reader_read_0 : ins m_Reader_read 0 = some (.aload_n 0, 1, 0, 0, 1) := rfl
theorem i_Reader_read_1 : ins m_Reader_read 1 = some (.invokevirtual 44, 3, 41, 0, 4) := rfl
theorem i_Reader_read_4 : ins m_Reader_read 4 = some (.iconst 0, 1, 0, 0, 5) := rfl
theorem i_Reader_read_5 : ins m_Reader_read 5 = some (.istore_n 1, 1, 0, 0, 6) := rfl
theorem i_Reader_read_6 : ins m_Reader_read 6 = some (.iload_n 1, 1, 0, 0, 7) := rfl
theorem i_Reader_read_7 : ins m_Reader_read 7 = some (.bipush 8, 2, 0, 0, 9) := rfl
theorem i_Reader_read_9 : ins m_Reader_read 9 = some (.if_icmp .ge 20, 3, 29, 0, 12) := rfl
theorem i_Reader_read_12 : ins m_Reader_read 12 = some (.aload_n 0, 1, 0, 0, 13) := rfl
theorem i_Reader_read_13 : ins m_Reader_read 13 = some (.invokevirtual 47, 3, 36, 0, 16) := rfl
theorem i_Reader_read_16 : ins m_Reader_read 16 = some (.ifCond .eq 13, 3, 29, 0, 19) := rfl
theorem i_Reader_read_19 : ins m_Reader_read 19 = some (.aload_n 0, 1, 0, 0, 20) := rfl
theorem i_Reader_read_20 : ins m_Reader_read 20 = some (.invokevirtual 44, 3, 41, 0, 23) := rfl
theorem i_Reader_read_23 : ins m_Reader_read 23 = some (.iinc 1 1, 3, 0, 0, 26) := rfl
theorem i_Reader_read_26 : ins m_Reader_read 26 = some (.goto (-20), 3, 6, 0, 29) := rfl
theorem i_Reader_read_29 : ins m_Reader_read 29 = some (.aload_n 0, 1, 0, 0, 30) := rfl
theorem i_Reader_read_30 : ins m_Reader_read 30 = some (.invokevirtual 51, 3, 58, 0, 33) := rfl
theorem i_Reader_read_33 : ins m_Reader_read 33 = some (.aload_n 0, 1, 0, 0, 34) := rfl
theorem i_Reader_read_34 : ins m_Reader_read 34 = some (.getfield 34, 3, 505, 0, 37) := rfl
theorem i_Reader_read_37 : ins m_Reader_read 37 = some (.iconst (-1), 1, 0, 0, 38) := rfl
theorem i_Reader_read_38 : ins m_Reader_read 38 = some (.if_icmp .ne 17, 3, 55, 0, 41) := rfl
theorem i_Reader_read_41 : ins m_Reader_read 41 = some (.new 54, 3, 3, 0, 44) := rfl
theorem i_Reader_read_44 : ins m_Reader_read 44 = some (.dup, 1, 0, 0, 45) := rfl
theorem i_Reader_read_45 : ins m_Reader_read 45 = some (.aload_n 0, 1, 0, 0, 46) := rfl
theorem i_Reader_read_46 : ins m_Reader_read 46 = some (.getfield 12, 3, 501, 0, 49) := rfl
theorem i_Reader_read_49 : ins m_Reader_read 49 = some (.invokespecial 56, 3, 22, 1, 52) := rfl
theorem i_Reader_read_52 : ins m_Reader_read 52 = some (.invokevirtual 59, 3, 23, 0, 55) := rfl
theorem i_Reader_read_55 : ins m_Reader_read 55 = some (.aload_n 0, 1, 0, 0, 56) := rfl
theorem i_Reader_read_56 : ins m_Reader_read 56 = some (.getfield 12, 3, 501, 0, 59) := rfl
theorem i_Reader_read_59 : ins m_Reader_read 59 = some (.areturn, 1, 0, 0, 60) := rfl
theorem i_Reader_fail_0 : ins m_Reader_fail 0 = some (.aload_n 0, 1, 0, 0, 1) := rfl
theorem i_Reader_fail_1 : ins m_Reader_fail 1 = some (.getfield 34, 3, 505, 0, 4) := rfl
theorem i_Reader_fail_4 : ins m_Reader_fail 4 = some (.iconst (-1), 1, 0, 0, 5) := rfl
theorem i_Reader_fail_5 : ins m_Reader_fail 5 = some (.if_icmp .ne 8, 3, 13, 0, 8) := rfl
theorem i_Reader_fail_8 : ins m_Reader_fail 8 = some (.aload_n 0, 1, 0, 0, 9) := rfl
theorem i_Reader_fail_9 : ins m_Reader_fail 9 = some (.iload_n 1, 1, 0, 0, 10) := rfl
theorem i_Reader_fail_10 : ins m_Reader_fail 10 = some (.putfield 34, 3, 505, 0, 13) := rfl
theorem i_Reader_fail_13 : ins m_Reader_fail 13 = some (.return_, 1, 0, 0, 14) := rfl
theorem i_Reader_ahead_0 : ins m_Reader_ahead 0 = some (.aload_n 0, 1, 0, 0, 1) := rfl
theorem i_Reader_ahead_1 : ins m_Reader_ahead 1 = some (.getfield 27, 3, 503, 0, 4) := rfl
theorem i_Reader_ahead_4 : ins m_Reader_ahead 4 = some (.aload_n 0, 1, 0, 0, 5) := rfl
theorem i_Reader_ahead_5 : ins m_Reader_ahead 5 = some (.getfield 37, 3, 500, 0, 8) := rfl
theorem i_Reader_ahead_8 : ins m_Reader_ahead 8 = some (.invokevirtual 62, 3, 60, 0, 11) := rfl
theorem i_Reader_ahead_11 : ins m_Reader_ahead 11 = some (.if_icmp .ge 32, 3, 43, 0, 14) := rfl
theorem i_Reader_ahead_14 : ins m_Reader_ahead 14 = some (.aload_n 0, 1, 0, 0, 15) := rfl
theorem i_Reader_ahead_15 : ins m_Reader_ahead 15 = some (.getfield 37, 3, 500, 0, 18) := rfl
theorem i_Reader_ahead_18 : ins m_Reader_ahead 18 = some (.aload_n 0, 1, 0, 0, 19) := rfl
theorem i_Reader_ahead_19 : ins m_Reader_ahead 19 = some (.getfield 27, 3, 503, 0, 22) := rfl
theorem i_Reader_ahead_22 : ins m_Reader_ahead 22 = some (.invokevirtual 66, 3, 61, 1, 25) := rfl
theorem i_Reader_ahead_25 : ins m_Reader_ahead 25 = some (.bipush 32, 2, 0, 0, 27) := rfl
theorem i_Reader_ahead_27 : ins m_Reader_ahead 27 = some (.if_icmp .ne 16, 3, 43, 0, 30) := rfl
theorem i_Reader_ahead_30 : ins m_Reader_ahead 30 = some (.aload_n 0, 1, 0, 0, 31) := rfl
theorem i_Reader_ahead_31 : ins m_Reader_ahead 31 = some (.dup, 1, 0, 0, 32) := rfl
theorem i_Reader_ahead_32 : ins m_Reader_ahead 32 = some (.getfield 27, 3, 503, 0, 35) := rfl
theorem i_Reader_ahead_35 : ins m_Reader_ahead 35 = some (.iconst 1, 1, 0, 0, 36) := rfl
theorem i_Reader_ahead_36 : ins m_Reader_ahead 36 = some (.iadd, 1, 0, 0, 37) := rfl
theorem i_Reader_ahead_37 : ins m_Reader_ahead 37 = some (.putfield 27, 3, 503, 0, 40) := rfl
theorem i_Reader_ahead_40 : ins m_Reader_ahead 40 = some (.goto (-40), 3, 0, 0, 43) := rfl
theorem i_Reader_ahead_43 : ins m_Reader_ahead 43 = some (.aload_n 0, 1, 0, 0, 44) := rfl
theorem i_Reader_ahead_44 : ins m_Reader_ahead 44 = some (.getfield 37, 3, 500, 0, 47) := rfl
theorem i_Reader_ahead_47 : ins m_Reader_ahead 47 = some (.aload_n 0, 1, 0, 0, 48) := rfl
theorem i_Reader_ahead_48 : ins m_Reader_ahead 48 = some (.getfield 27, 3, 503, 0, 51) := rfl
theorem i_Reader_ahead_51 : ins m_Reader_ahead 51 = some (.invokevirtual 66, 3, 61, 1, 54) := rfl
theorem i_Reader_ahead_54 : ins m_Reader_ahead 54 = some (.ireturn, 1, 0, 0, 55) := rfl
theorem i_Reader_more_0 : ins m_Reader_more 0 = some (.aload_n 0, 1, 0, 0, 1) := rfl
theorem i_Reader_more_1 : ins m_Reader_more 1 = some (.getfield 34, 3, 505, 0, 4) := rfl
theorem i_Reader_more_4 : ins m_Reader_more 4 = some (.iconst (-1), 1, 0, 0, 5) := rfl
theorem i_Reader_more_5 : ins m_Reader_more 5 = some (.if_icmp .ne 15, 3, 20, 0, 8) := rfl
theorem i_Reader_more_8 : ins m_Reader_more 8 = some (.aload_n 0, 1, 0, 0, 9) := rfl
theorem i_Reader_more_9 : ins m_Reader_more 9 = some (.invokevirtual 69, 3, 35, 0, 12) := rfl
theorem i_Reader_more_12 : ins m_Reader_more 12 = some (.iconst (-1), 1, 0, 0, 13) := rfl
theorem i_Reader_more_13 : ins m_Reader_more 13 = some (.if_icmp .eq 7, 3, 20, 0, 16) := rfl
theorem i_Reader_more_16 : ins m_Reader_more 16 = some (.iconst 1, 1, 0, 0, 17) := rfl
theorem i_Reader_more_17 : ins m_Reader_more 17 = some (.goto 4, 3, 21, 0, 20) := rfl
theorem i_Reader_more_20 : ins m_Reader_more 20 = some (.iconst 0, 1, 0, 0, 21) := rfl
theorem i_Reader_more_21 : ins m_Reader_more 21 = some (.ireturn, 1, 0, 0, 22) := rfl
theorem i_Reader_takes_0 : ins m_Reader_takes 0 = some (.aload_n 0, 1, 0, 0, 1) := rfl
theorem i_Reader_takes_1 : ins m_Reader_takes 1 = some (.getfield 34, 3, 505, 0, 4) := rfl
theorem i_Reader_takes_4 : ins m_Reader_takes 4 = some (.iconst (-1), 1, 0, 0, 5) := rfl
theorem i_Reader_takes_5 : ins m_Reader_takes 5 = some (.if_icmp .ne 11, 3, 16, 0, 8) := rfl
theorem i_Reader_takes_8 : ins m_Reader_takes 8 = some (.aload_n 0, 1, 0, 0, 9) := rfl
theorem i_Reader_takes_9 : ins m_Reader_takes 9 = some (.invokevirtual 69, 3, 35, 0, 12) := rfl
theorem i_Reader_takes_12 : ins m_Reader_takes 12 = some (.iload_n 1, 1, 0, 0, 13) := rfl
theorem i_Reader_takes_13 : ins m_Reader_takes 13 = some (.if_icmp .eq 5, 3, 18, 0, 16) := rfl
theorem i_Reader_takes_16 : ins m_Reader_takes 16 = some (.iconst 0, 1, 0, 0, 17) := rfl
theorem i_Reader_takes_17 : ins m_Reader_takes 17 = some (.ireturn, 1, 0, 0, 18) := rfl
theorem i_Reader_takes_18 : ins m_Reader_takes 18 = some (.aload_n 0, 1, 0, 0, 19) := rfl
theorem i_Reader_takes_19 : ins m_Reader_takes 19 = some (.dup, 1, 0, 0, 20) := rfl
theorem i_Reader_takes_20 : ins m_Reader_takes 20 = some (.getfield 27, 3, 503, 0, 23) := rfl
theorem i_Reader_takes_23 : ins m_Reader_takes 23 = some (.iconst 1, 1, 0, 0, 24) := rfl
theorem i_Reader_takes_24 : ins m_Reader_takes 24 = some (.iadd, 1, 0, 0, 25) := rfl
theorem i_Reader_takes_25 : ins m_Reader_takes 25 = some (.putfield 27, 3, 503, 0, 28) := rfl
theorem i_Reader_takes_28 : ins m_Reader_takes 28 = some (.iconst 1, 1, 0, 0, 29) := rfl
theorem i_Reader_takes_29 : ins m_Reader_takes 29 = some (.ireturn, 1, 0, 0, 30) := rfl
theorem i_Reader_must_0 : ins m_Reader_must 0 = some (.aload_n 0, 1, 0, 0, 1) := rfl
theorem i_Reader_must_1 : ins m_Reader_must 1 = some (.iload_n 1, 1, 0, 0, 2) := rfl
theorem i_Reader_must_2 : ins m_Reader_must 2 = some (.invokevirtual 72, 3, 37, 1, 5) := rfl
theorem i_Reader_must_5 : ins m_Reader_must 5 = some (.ifCond .ne 11, 3, 16, 0, 8) := rfl
theorem i_Reader_must_8 : ins m_Reader_must 8 = some (.aload_n 0, 1, 0, 0, 9) := rfl
theorem i_Reader_must_9 : ins m_Reader_must 9 = some (.aload_n 0, 1, 0, 0, 10) := rfl
theorem i_Reader_must_10 : ins m_Reader_must 10 = some (.getfield 27, 3, 503, 0, 13) := rfl
theorem i_Reader_must_13 : ins m_Reader_must 13 = some (.invokevirtual 76, 3, 34, 1, 16) := rfl
theorem i_Reader_must_16 : ins m_Reader_must 16 = some (.return_, 1, 0, 0, 17) := rfl
theorem i_Reader_isName_0 : ins m_Reader_isName 0 = some (.iload_n 0, 1, 0, 0, 1) := rfl
theorem i_Reader_isName_1 : ins m_Reader_isName 1 = some (.bipush 65, 2, 0, 0, 3) := rfl
theorem i_Reader_isName_3 : ins m_Reader_isName 3 = some (.if_icmp .lt 13, 3, 16, 0, 6) := rfl
theorem i_Reader_isName_6 : ins m_Reader_isName 6 = some (.iload_n 0, 1, 0, 0, 7) := rfl
theorem i_Reader_isName_7 : ins m_Reader_isName 7 = some (.bipush 72, 2, 0, 0, 9) := rfl
theorem i_Reader_isName_9 : ins m_Reader_isName 9 = some (.if_icmp .gt 7, 3, 16, 0, 12) := rfl
theorem i_Reader_isName_12 : ins m_Reader_isName 12 = some (.iconst 1, 1, 0, 0, 13) := rfl
theorem i_Reader_isName_13 : ins m_Reader_isName 13 = some (.goto 4, 3, 17, 0, 16) := rfl
theorem i_Reader_isName_16 : ins m_Reader_isName 16 = some (.iconst 0, 1, 0, 0, 17) := rfl
theorem i_Reader_isName_17 : ins m_Reader_isName 17 = some (.ireturn, 1, 0, 0, 18) := rfl
theorem i_Reader_isSmall_0 : ins m_Reader_isSmall 0 = some (.iload_n 0, 1, 0, 0, 1) := rfl
theorem i_Reader_isSmall_1 : ins m_Reader_isSmall 1 = some (.bipush 97, 2, 0, 0, 3) := rfl
theorem i_Reader_isSmall_3 : ins m_Reader_isSmall 3 = some (.if_icmp .lt 13, 3, 16, 0, 6) := rfl
theorem i_Reader_isSmall_6 : ins m_Reader_isSmall 6 = some (.iload_n 0, 1, 0, 0, 7) := rfl
theorem i_Reader_isSmall_7 : ins m_Reader_isSmall 7 = some (.bipush 122, 2, 0, 0, 9) := rfl
theorem i_Reader_isSmall_9 : ins m_Reader_isSmall 9 = some (.if_icmp .gt 7, 3, 16, 0, 12) := rfl
theorem i_Reader_isSmall_12 : ins m_Reader_isSmall 12 = some (.iconst 1, 1, 0, 0, 13) := rfl
theorem i_Reader_isSmall_13 : ins m_Reader_isSmall 13 = some (.goto 4, 3, 17, 0, 16) := rfl
theorem i_Reader_isSmall_16 : ins m_Reader_isSmall 16 = some (.iconst 0, 1, 0, 0, 17) := rfl
theorem i_Reader_isSmall_17 : ins m_Reader_isSmall 17 = some (.ireturn, 1, 0, 0, 18) := rfl
theorem i_Reader_readRule_0 : ins m_Reader_readRule 0 = some (.aload_n 0, 1, 0, 0, 1) := rfl
theorem i_Reader_readRule_1 : ins m_Reader_readRule 1 = some (.invokevirtual 69, 3, 35, 0, 4) := rfl
theorem i_Reader_readRule_4 : ins m_Reader_readRule 4 = some (.istore_n 1, 1, 0, 0, 5) := rfl
theorem i_Reader_readRule_5 : ins m_Reader_readRule 5 = some (.iload_n 1, 1, 0, 0, 6) := rfl
theorem i_Reader_readRule_6 : ins m_Reader_readRule 6 = some (.bipush 65, 2, 0, 0, 8) := rfl
theorem i_Reader_readRule_8 : ins m_Reader_readRule 8 = some (.isub, 1, 0, 0, 9) := rfl
theorem i_Reader_readRule_9 : ins m_Reader_readRule 9 = some (.istore_n 2, 1, 0, 0, 10) := rfl
theorem i_Reader_readRule_10 : ins m_Reader_readRule 10 = some (.iload_n 1, 1, 0, 0, 11) := rfl
theorem i_Reader_readRule_11 : ins m_Reader_readRule 11 = some (.invokestatic 79, 3, 39, 1, 14) := rfl
theorem i_Reader_readRule_14 : ins m_Reader_readRule 14 = some (.ifCond .eq 14, 3, 28, 0, 17) := rfl
theorem i_Reader_readRule_17 : ins m_Reader_readRule 17 = some (.aload_n 0, 1, 0, 0, 18) := rfl
theorem i_Reader_readRule_18 : ins m_Reader_readRule 18 = some (.getfield 12, 3, 501, 0, 21) := rfl
theorem i_Reader_readRule_21 : ins m_Reader_readRule 21 = some (.iload_n 2, 1, 0, 0, 22) := rfl
theorem i_Reader_readRule_22 : ins m_Reader_readRule 22 = some (.invokevirtual 82, 3, 4, 1, 25) := rfl
theorem i_Reader_readRule_25 : ins m_Reader_readRule 25 = some (.ifCond .eq 12, 3, 37, 0, 28) := rfl
theorem i_Reader_readRule_28 : ins m_Reader_readRule 28 = some (.aload_n 0, 1, 0, 0, 29) := rfl
theorem i_Reader_readRule_29 : ins m_Reader_readRule 29 = some (.aload_n 0, 1, 0, 0, 30) := rfl
theorem i_Reader_readRule_30 : ins m_Reader_readRule 30 = some (.getfield 27, 3, 503, 0, 33) := rfl
theorem i_Reader_readRule_33 : ins m_Reader_readRule 33 = some (.invokevirtual 76, 3, 34, 1, 36) := rfl
theorem i_Reader_readRule_36 : ins m_Reader_readRule 36 = some (.return_, 1, 0, 0, 37) := rfl
theorem i_Reader_readRule_37 : ins m_Reader_readRule 37 = some (.aload_n 0, 1, 0, 0, 38) := rfl
theorem i_Reader_readRule_38 : ins m_Reader_readRule 38 = some (.dup, 1, 0, 0, 39) := rfl
theorem i_Reader_readRule_39 : ins m_Reader_readRule 39 = some (.getfield 27, 3, 503, 0, 42) := rfl
theorem i_Reader_readRule_42 : ins m_Reader_readRule 42 = some (.iconst 1, 1, 0, 0, 43) := rfl
theorem i_Reader_readRule_43 : ins m_Reader_readRule 43 = some (.iadd, 1, 0, 0, 44) := rfl
theorem i_Reader_readRule_44 : ins m_Reader_readRule 44 = some (.putfield 27, 3, 503, 0, 47) := rfl
theorem i_Reader_readRule_47 : ins m_Reader_readRule 47 = some (.aload_n 0, 1, 0, 0, 48) := rfl
theorem i_Reader_readRule_48 : ins m_Reader_readRule 48 = some (.bipush 61, 2, 0, 0, 50) := rfl
theorem i_Reader_readRule_50 : ins m_Reader_readRule 50 = some (.invokevirtual 85, 3, 38, 1, 53) := rfl
theorem i_Reader_readRule_53 : ins m_Reader_readRule 53 = some (.aload_n 0, 1, 0, 0, 54) := rfl
theorem i_Reader_readRule_54 : ins m_Reader_readRule 54 = some (.getfield 12, 3, 501, 0, 57) := rfl
theorem i_Reader_readRule_57 : ins m_Reader_readRule 57 = some (.getfield 88, 3, 105, 0, 60) := rfl
theorem i_Reader_readRule_60 : ins m_Reader_readRule 60 = some (.istore_n 3, 1, 0, 0, 61) := rfl
theorem i_Reader_readRule_61 : ins m_Reader_readRule 61 = some (.aload_n 0, 1, 0, 0, 62) := rfl
theorem i_Reader_readRule_62 : ins m_Reader_readRule 62 = some (.invokevirtual 91, 3, 42, 0, 65) := rfl
theorem i_Reader_readRule_65 : ins m_Reader_readRule 65 = some (.astore 4, 2, 0, 0, 67) := rfl
theorem i_Reader_readRule_67 : ins m_Reader_readRule 67 = some (.aload_n 0, 1, 0, 0, 68) := rfl
theorem i_Reader_readRule_68 : ins m_Reader_readRule 68 = some (.bipush 59, 2, 0, 0, 70) := rfl
theorem i_Reader_readRule_70 : ins m_Reader_readRule 70 = some (.invokevirtual 85, 3, 38, 1, 73) := rfl
theorem i_Reader_readRule_73 : ins m_Reader_readRule 73 = some (.aload_n 0, 1, 0, 0, 74) := rfl
theorem i_Reader_readRule_74 : ins m_Reader_readRule 74 = some (.getfield 12, 3, 501, 0, 77) := rfl
theorem i_Reader_readRule_77 : ins m_Reader_readRule 77 = some (.iload_n 2, 1, 0, 0, 78) := rfl
theorem i_Reader_readRule_78 : ins m_Reader_readRule 78 = some (.aload 4, 2, 0, 0, 80) := rfl
theorem i_Reader_readRule_80 : ins m_Reader_readRule 80 = some (.aload_n 0, 1, 0, 0, 81) := rfl
theorem i_Reader_readRule_81 : ins m_Reader_readRule 81 = some (.getfield 12, 3, 501, 0, 84) := rfl
theorem i_Reader_readRule_84 : ins m_Reader_readRule 84 = some (.getfield 88, 3, 105, 0, 87) := rfl
theorem i_Reader_readRule_87 : ins m_Reader_readRule 87 = some (.iload_n 3, 1, 0, 0, 88) := rfl
theorem i_Reader_readRule_88 : ins m_Reader_readRule 88 = some (.isub, 1, 0, 0, 89) := rfl
theorem i_Reader_readRule_89 : ins m_Reader_readRule 89 = some (.invokevirtual 95, 3, 5, 3, 92) := rfl
theorem i_Reader_readRule_92 : ins m_Reader_readRule 92 = some (.return_, 1, 0, 0, 93) := rfl
theorem i_Reader_readAlt_0 : ins m_Reader_readAlt 0 = some (.aload_n 0, 1, 0, 0, 1) := rfl
theorem i_Reader_readAlt_1 : ins m_Reader_readAlt 1 = some (.invokevirtual 99, 3, 43, 0, 4) := rfl
theorem i_Reader_readAlt_4 : ins m_Reader_readAlt 4 = some (.astore_n 1, 1, 0, 0, 5) := rfl
theorem i_Reader_readAlt_5 : ins m_Reader_readAlt 5 = some (.aload_n 1, 1, 0, 0, 6) := rfl
theorem i_Reader_readAlt_6 : ins m_Reader_readAlt 6 = some (.astore_n 2, 1, 0, 0, 7) := rfl
theorem i_Reader_readAlt_7 : ins m_Reader_readAlt 7 = some (.iconst 0, 1, 0, 0, 8) := rfl
theorem i_Reader_readAlt_8 : ins m_Reader_readAlt 8 = some (.istore_n 3, 1, 0, 0, 9) := rfl
theorem i_Reader_readAlt_9 : ins m_Reader_readAlt 9 = some (.iload_n 3, 1, 0, 0, 10) := rfl
theorem i_Reader_readAlt_10 : ins m_Reader_readAlt 10 = some (.sipush 240, 3, 0, 0, 13) := rfl
theorem i_Reader_readAlt_13 : ins m_Reader_readAlt 13 = some (.if_icmp .ge 33, 3, 46, 0, 16) := rfl
theorem i_Reader_readAlt_16 : ins m_Reader_readAlt 16 = some (.aload_n 0, 1, 0, 0, 17) := rfl
theorem i_Reader_readAlt_17 : ins m_Reader_readAlt 17 = some (.bipush 124, 2, 0, 0, 19) := rfl
theorem i_Reader_readAlt_19 : ins m_Reader_readAlt 19 = some (.invokevirtual 72, 3, 37, 1, 22) := rfl
theorem i_Reader_readAlt_22 : ins m_Reader_readAlt 22 = some (.ifCond .eq 24, 3, 46, 0, 25) := rfl
theorem i_Reader_readAlt_25 : ins m_Reader_readAlt 25 = some (.aload_n 0, 1, 0, 0, 26) := rfl
theorem i_Reader_readAlt_26 : ins m_Reader_readAlt 26 = some (.invokevirtual 99, 3, 43, 0, 29) := rfl
theorem i_Reader_readAlt_29 : ins m_Reader_readAlt 29 = some (.astore 4, 2, 0, 0, 31) := rfl
theorem i_Reader_readAlt_31 : ins m_Reader_readAlt 31 = some (.aload_n 2, 1, 0, 0, 32) := rfl
theorem i_Reader_readAlt_32 : ins m_Reader_readAlt 32 = some (.aload 4, 2, 0, 0, 34) := rfl
theorem i_Reader_readAlt_34 : ins m_Reader_readAlt 34 = some (.putfield 102, 3, 801, 0, 37) := rfl
theorem i_Reader_readAlt_37 : ins m_Reader_readAlt 37 = some (.aload 4, 2, 0, 0, 39) := rfl
theorem i_Reader_readAlt_39 : ins m_Reader_readAlt 39 = some (.astore_n 2, 1, 0, 0, 40) := rfl
theorem i_Reader_readAlt_40 : ins m_Reader_readAlt 40 = some (.iinc 3 1, 3, 0, 0, 43) := rfl
theorem i_Reader_readAlt_43 : ins m_Reader_readAlt 43 = some (.goto (-34), 3, 9, 0, 46) := rfl
theorem i_Reader_readAlt_46 : ins m_Reader_readAlt 46 = some (.aload_n 1, 1, 0, 0, 47) := rfl
theorem i_Reader_readAlt_47 : ins m_Reader_readAlt 47 = some (.areturn, 1, 0, 0, 48) := rfl
theorem i_Reader_readSeq_0 : ins m_Reader_readSeq 0 = some (.new 103, 3, 8, 0, 3) := rfl
theorem i_Reader_readSeq_3 : ins m_Reader_readSeq 3 = some (.dup, 1, 0, 0, 4) := rfl
theorem i_Reader_readSeq_4 : ins m_Reader_readSeq 4 = some (.invokespecial 108, 3, 82, 0, 7) := rfl
theorem i_Reader_readSeq_7 : ins m_Reader_readSeq 7 = some (.astore_n 1, 1, 0, 0, 8) := rfl
theorem i_Reader_readSeq_8 : ins m_Reader_readSeq 8 = some (.aload_n 1, 1, 0, 0, 9) := rfl
theorem i_Reader_readSeq_9 : ins m_Reader_readSeq 9 = some (.aload_n 0, 1, 0, 0, 10) := rfl
theorem i_Reader_readSeq_10 : ins m_Reader_readSeq 10 = some (.invokevirtual 109, 3, 45, 0, 13) := rfl
theorem i_Reader_readSeq_13 : ins m_Reader_readSeq 13 = some (.putfield 113, 3, 800, 0, 16) := rfl
theorem i_Reader_readSeq_16 : ins m_Reader_readSeq 16 = some (.aload_n 1, 1, 0, 0, 17) := rfl
theorem i_Reader_readSeq_17 : ins m_Reader_readSeq 17 = some (.getfield 113, 3, 800, 0, 20) := rfl
theorem i_Reader_readSeq_20 : ins m_Reader_readSeq 20 = some (.astore_n 2, 1, 0, 0, 21) := rfl
theorem i_Reader_readSeq_21 : ins m_Reader_readSeq 21 = some (.iconst 0, 1, 0, 0, 22) := rfl
theorem i_Reader_readSeq_22 : ins m_Reader_readSeq 22 = some (.istore_n 3, 1, 0, 0, 23) := rfl
theorem i_Reader_readSeq_23 : ins m_Reader_readSeq 23 = some (.iload_n 3, 1, 0, 0, 24) := rfl
theorem i_Reader_readSeq_24 : ins m_Reader_readSeq 24 = some (.sipush 240, 3, 0, 0, 27) := rfl
theorem i_Reader_readSeq_27 : ins m_Reader_readSeq 27 = some (.if_icmp .ge 35, 3, 62, 0, 30) := rfl
theorem i_Reader_readSeq_30 : ins m_Reader_readSeq 30 = some (.aload_n 2, 1, 0, 0, 31) := rfl
theorem i_Reader_readSeq_31 : ins m_Reader_readSeq 31 = some (.ifnull 31, 3, 62, 0, 34) := rfl
theorem i_Reader_readSeq_34 : ins m_Reader_readSeq 34 = some (.aload_n 0, 1, 0, 0, 35) := rfl
theorem i_Reader_readSeq_35 : ins m_Reader_readSeq 35 = some (.invokevirtual 117, 3, 44, 0, 38) := rfl
theorem i_Reader_readSeq_38 : ins m_Reader_readSeq 38 = some (.ifCond .eq 24, 3, 62, 0, 41) := rfl
theorem i_Reader_readSeq_41 : ins m_Reader_readSeq 41 = some (.aload_n 0, 1, 0, 0, 42) := rfl
theorem i_Reader_readSeq_42 : ins m_Reader_readSeq 42 = some (.invokevirtual 109, 3, 45, 0, 45) := rfl
theorem i_Reader_readSeq_45 : ins m_Reader_readSeq 45 = some (.astore 4, 2, 0, 0, 47) := rfl
theorem i_Reader_readSeq_47 : ins m_Reader_readSeq 47 = some (.aload_n 2, 1, 0, 0, 48) := rfl
theorem i_Reader_readSeq_48 : ins m_Reader_readSeq 48 = some (.aload 4, 2, 0, 0, 50) := rfl
theorem i_Reader_readSeq_50 : ins m_Reader_readSeq 50 = some (.putfield 120, 3, 406, 0, 53) := rfl
theorem i_Reader_readSeq_53 : ins m_Reader_readSeq 53 = some (.aload 4, 2, 0, 0, 55) := rfl
theorem i_Reader_readSeq_55 : ins m_Reader_readSeq 55 = some (.astore_n 2, 1, 0, 0, 56) := rfl
theorem i_Reader_readSeq_56 : ins m_Reader_readSeq 56 = some (.iinc 3 1, 3, 0, 0, 59) := rfl
theorem i_Reader_readSeq_59 : ins m_Reader_readSeq 59 = some (.goto (-36), 3, 23, 0, 62) := rfl
theorem i_Reader_readSeq_62 : ins m_Reader_readSeq 62 = some (.aload_n 1, 1, 0, 0, 63) := rfl
theorem i_Reader_readSeq_63 : ins m_Reader_readSeq 63 = some (.areturn, 1, 0, 0, 64) := rfl
theorem i_Reader_partAhead_0 : ins m_Reader_partAhead 0 = some (.aload_n 0, 1, 0, 0, 1) := rfl
theorem i_Reader_partAhead_1 : ins m_Reader_partAhead 1 = some (.getfield 34, 3, 505, 0, 4) := rfl
theorem i_Reader_partAhead_4 : ins m_Reader_partAhead 4 = some (.iconst (-1), 1, 0, 0, 5) := rfl
theorem i_Reader_partAhead_5 : ins m_Reader_partAhead 5 = some (.if_icmp .eq 5, 3, 10, 0, 8) := rfl
theorem i_Reader_partAhead_8 : ins m_Reader_partAhead 8 = some (.iconst 0, 1, 0, 0, 9) := rfl
theorem i_Reader_partAhead_9 : ins m_Reader_partAhead 9 = some (.ireturn, 1, 0, 0, 10) := rfl
theorem i_Reader_partAhead_10 : ins m_Reader_partAhead 10 = some (.aload_n 0, 1, 0, 0, 11) := rfl
theorem i_Reader_partAhead_11 : ins m_Reader_partAhead 11 = some (.invokevirtual 69, 3, 35, 0, 14) := rfl
theorem i_Reader_partAhead_14 : ins m_Reader_partAhead 14 = some (.istore_n 1, 1, 0, 0, 15) := rfl
theorem i_Reader_partAhead_15 : ins m_Reader_partAhead 15 = some (.iload_n 1, 1, 0, 0, 16) := rfl
theorem i_Reader_partAhead_16 : ins m_Reader_partAhead 16 = some (.bipush 39, 2, 0, 0, 18) := rfl
theorem i_Reader_partAhead_18 : ins m_Reader_partAhead 18 = some (.if_icmp .eq 29, 3, 47, 0, 21) := rfl
theorem i_Reader_partAhead_21 : ins m_Reader_partAhead 21 = some (.iload_n 1, 1, 0, 0, 22) := rfl
theorem i_Reader_partAhead_22 : ins m_Reader_partAhead 22 = some (.bipush 91, 2, 0, 0, 24) := rfl
theorem i_Reader_partAhead_24 : ins m_Reader_partAhead 24 = some (.if_icmp .eq 23, 3, 47, 0, 27) := rfl
theorem i_Reader_partAhead_27 : ins m_Reader_partAhead 27 = some (.iload_n 1, 1, 0, 0, 28) := rfl
theorem i_Reader_partAhead_28 : ins m_Reader_partAhead 28 = some (.bipush 40, 2, 0, 0, 30) := rfl
theorem i_Reader_partAhead_30 : ins m_Reader_partAhead 30 = some (.if_icmp .eq 17, 3, 47, 0, 33) := rfl
theorem i_Reader_partAhead_33 : ins m_Reader_partAhead 33 = some (.iload_n 1, 1, 0, 0, 34) := rfl
theorem i_Reader_partAhead_34 : ins m_Reader_partAhead 34 = some (.invokestatic 79, 3, 39, 1, 37) := rfl
theorem i_Reader_partAhead_37 : ins m_Reader_partAhead 37 = some (.ifCond .ne 10, 3, 47, 0, 40) := rfl
theorem i_Reader_partAhead_40 : ins m_Reader_partAhead 40 = some (.iload_n 1, 1, 0, 0, 41) := rfl
theorem i_Reader_partAhead_41 : ins m_Reader_partAhead 41 = some (.invokestatic 124, 3, 40, 1, 44) := rfl
theorem i_Reader_partAhead_44 : ins m_Reader_partAhead 44 = some (.ifCond .eq 7, 3, 51, 0, 47) := rfl
theorem i_Reader_partAhead_47 : ins m_Reader_partAhead 47 = some (.iconst 1, 1, 0, 0, 48) := rfl
theorem i_Reader_partAhead_48 : ins m_Reader_partAhead 48 = some (.goto 4, 3, 52, 0, 51) := rfl
theorem i_Reader_partAhead_51 : ins m_Reader_partAhead 51 = some (.iconst 0, 1, 0, 0, 52) := rfl
theorem i_Reader_partAhead_52 : ins m_Reader_partAhead 52 = some (.ireturn, 1, 0, 0, 53) := rfl
theorem i_Reader_readItem_0 : ins m_Reader_readItem 0 = some (.aload_n 0, 1, 0, 0, 1) := rfl
theorem i_Reader_readItem_1 : ins m_Reader_readItem 1 = some (.invokevirtual 117, 3, 44, 0, 4) := rfl
theorem i_Reader_readItem_4 : ins m_Reader_readItem 4 = some (.ifCond .ne 13, 3, 17, 0, 7) := rfl
theorem i_Reader_readItem_7 : ins m_Reader_readItem 7 = some (.aload_n 0, 1, 0, 0, 8) := rfl
theorem i_Reader_readItem_8 : ins m_Reader_readItem 8 = some (.aload_n 0, 1, 0, 0, 9) := rfl
theorem i_Reader_readItem_9 : ins m_Reader_readItem 9 = some (.getfield 27, 3, 503, 0, 12) := rfl
theorem i_Reader_readItem_12 : ins m_Reader_readItem 12 = some (.invokevirtual 76, 3, 34, 1, 15) := rfl
theorem i_Reader_readItem_15 : ins m_Reader_readItem 15 = some (.aconst_null, 1, 0, 0, 16) := rfl
theorem i_Reader_readItem_16 : ins m_Reader_readItem 16 = some (.areturn, 1, 0, 0, 17) := rfl
theorem i_Reader_readItem_17 : ins m_Reader_readItem 17 = some (.aload_n 0, 1, 0, 0, 18) := rfl
theorem i_Reader_readItem_18 : ins m_Reader_readItem 18 = some (.invokevirtual 127, 3, 46, 0, 21) := rfl
theorem i_Reader_readItem_21 : ins m_Reader_readItem 21 = some (.astore_n 1, 1, 0, 0, 22) := rfl
theorem i_Reader_readItem_22 : ins m_Reader_readItem 22 = some (.aload_n 0, 1, 0, 0, 23) := rfl
theorem i_Reader_readItem_23 : ins m_Reader_readItem 23 = some (.bipush 42, 2, 0, 0, 25) := rfl
theorem i_Reader_readItem_25 : ins m_Reader_readItem 25 = some (.invokevirtual 72, 3, 37, 1, 28) := rfl
theorem i_Reader_readItem_28 : ins m_Reader_readItem 28 = some (.ifCond .eq 12, 3, 40, 0, 31) := rfl
theorem i_Reader_readItem_31 : ins m_Reader_readItem 31 = some (.aload_n 1, 1, 0, 0, 32) := rfl
theorem i_Reader_readItem_32 : ins m_Reader_readItem 32 = some (.bipush 42, 2, 0, 0, 34) := rfl
theorem i_Reader_readItem_34 : ins m_Reader_readItem 34 = some (.putfield 130, 3, 401, 0, 37) := rfl
theorem i_Reader_readItem_37 : ins m_Reader_readItem 37 = some (.goto 36, 3, 73, 0, 40) := rfl
theorem i_Reader_readItem_40 : ins m_Reader_readItem 40 = some (.aload_n 0, 1, 0, 0, 41) := rfl
theorem i_Reader_readItem_41 : ins m_Reader_readItem 41 = some (.bipush 43, 2, 0, 0, 43) := rfl
theorem i_Reader_readItem_43 : ins m_Reader_readItem 43 = some (.invokevirtual 72, 3, 37, 1, 46) := rfl
theorem i_Reader_readItem_46 : ins m_Reader_readItem 46 = some (.ifCond .eq 12, 3, 58, 0, 49) := rfl
theorem i_Reader_readItem_49 : ins m_Reader_readItem 49 = some (.aload_n 1, 1, 0, 0, 50) := rfl
theorem i_Reader_readItem_50 : ins m_Reader_readItem 50 = some (.bipush 43, 2, 0, 0, 52) := rfl
theorem i_Reader_readItem_52 : ins m_Reader_readItem 52 = some (.putfield 130, 3, 401, 0, 55) := rfl
theorem i_Reader_readItem_55 : ins m_Reader_readItem 55 = some (.goto 18, 3, 73, 0, 58) := rfl
theorem i_Reader_readItem_58 : ins m_Reader_readItem 58 = some (.aload_n 0, 1, 0, 0, 59) := rfl
theorem i_Reader_readItem_59 : ins m_Reader_readItem 59 = some (.bipush 63, 2, 0, 0, 61) := rfl
theorem i_Reader_readItem_61 : ins m_Reader_readItem 61 = some (.invokevirtual 72, 3, 37, 1, 64) := rfl
theorem i_Reader_readItem_64 : ins m_Reader_readItem 64 = some (.ifCond .eq 9, 3, 73, 0, 67) := rfl
theorem i_Reader_readItem_67 : ins m_Reader_readItem 67 = some (.aload_n 1, 1, 0, 0, 68) := rfl
theorem i_Reader_readItem_68 : ins m_Reader_readItem 68 = some (.bipush 63, 2, 0, 0, 70) := rfl
theorem i_Reader_readItem_70 : ins m_Reader_readItem 70 = some (.putfield 130, 3, 401, 0, 73) := rfl
theorem i_Reader_readItem_73 : ins m_Reader_readItem 73 = some (.aload_n 1, 1, 0, 0, 74) := rfl
theorem i_Reader_readItem_74 : ins m_Reader_readItem 74 = some (.areturn, 1, 0, 0, 75) := rfl
theorem i_Reader_readPart_0 : ins m_Reader_readPart 0 = some (.aload_n 0, 1, 0, 0, 1) := rfl
theorem i_Reader_readPart_1 : ins m_Reader_readPart 1 = some (.invokevirtual 69, 3, 35, 0, 4) := rfl
theorem i_Reader_readPart_4 : ins m_Reader_readPart 4 = some (.istore_n 1, 1, 0, 0, 5) := rfl
theorem i_Reader_readPart_5 : ins m_Reader_readPart 5 = some (.iload_n 1, 1, 0, 0, 6) := rfl
theorem i_Reader_readPart_6 : ins m_Reader_readPart 6 = some (.bipush 39, 2, 0, 0, 8) := rfl
theorem i_Reader_readPart_8 : ins m_Reader_readPart 8 = some (.if_icmp .ne 8, 3, 16, 0, 11) := rfl
theorem i_Reader_readPart_11 : ins m_Reader_readPart 11 = some (.aload_n 0, 1, 0, 0, 12) := rfl
theorem i_Reader_readPart_12 : ins m_Reader_readPart 12 = some (.invokevirtual 133, 3, 48, 0, 15) := rfl
theorem i_Reader_readPart_15 : ins m_Reader_readPart 15 = some (.areturn, 1, 0, 0, 16) := rfl
theorem i_Reader_readPart_16 : ins m_Reader_readPart 16 = some (.iload_n 1, 1, 0, 0, 17) := rfl
theorem i_Reader_readPart_17 : ins m_Reader_readPart 17 = some (.bipush 91, 2, 0, 0, 19) := rfl
theorem i_Reader_readPart_19 : ins m_Reader_readPart 19 = some (.if_icmp .ne 8, 3, 27, 0, 22) := rfl
theorem i_Reader_readPart_22 : ins m_Reader_readPart 22 = some (.aload_n 0, 1, 0, 0, 23) := rfl
theorem i_Reader_readPart_23 : ins m_Reader_readPart 23 = some (.invokevirtual 136, 3, 49, 0, 26) := rfl
theorem i_Reader_readPart_26 : ins m_Reader_readPart 26 = some (.areturn, 1, 0, 0, 27) := rfl
theorem i_Reader_readPart_27 : ins m_Reader_readPart 27 = some (.iload_n 1, 1, 0, 0, 28) := rfl
theorem i_Reader_readPart_28 : ins m_Reader_readPart 28 = some (.bipush 40, 2, 0, 0, 30) := rfl
theorem i_Reader_readPart_30 : ins m_Reader_readPart 30 = some (.if_icmp .ne 20, 3, 50, 0, 33) := rfl
theorem i_Reader_readPart_33 : ins m_Reader_readPart 33 = some (.new 121, 3, 4, 0, 36) := rfl
theorem i_Reader_readPart_36 : ins m_Reader_readPart 36 = some (.dup, 1, 0, 0, 37) := rfl
theorem i_Reader_readPart_37 : ins m_Reader_readPart 37 = some (.bipush 11, 2, 0, 0, 39) := rfl
theorem i_Reader_readPart_39 : ins m_Reader_readPart 39 = some (.invokespecial 139, 3, 30, 1, 42) := rfl
theorem i_Reader_readPart_42 : ins m_Reader_readPart 42 = some (.astore_n 2, 1, 0, 0, 43) := rfl
theorem i_Reader_readPart_43 : ins m_Reader_readPart 43 = some (.aload_n 0, 1, 0, 0, 44) := rfl
theorem i_Reader_readPart_44 : ins m_Reader_readPart 44 = some (.aload_n 2, 1, 0, 0, 45) := rfl
theorem i_Reader_readPart_45 : ins m_Reader_readPart 45 = some (.invokevirtual 140, 3, 56, 1, 48) := rfl
theorem i_Reader_readPart_48 : ins m_Reader_readPart 48 = some (.aload_n 2, 1, 0, 0, 49) := rfl
theorem i_Reader_readPart_49 : ins m_Reader_readPart 49 = some (.areturn, 1, 0, 0, 50) := rfl
theorem i_Reader_readPart_50 : ins m_Reader_readPart 50 = some (.iload_n 1, 1, 0, 0, 51) := rfl
theorem i_Reader_readPart_51 : ins m_Reader_readPart 51 = some (.invokestatic 79, 3, 39, 1, 54) := rfl
theorem i_Reader_readPart_54 : ins m_Reader_readPart 54 = some (.ifCond .eq 14, 3, 68, 0, 57) := rfl
theorem i_Reader_readPart_57 : ins m_Reader_readPart 57 = some (.aload_n 0, 1, 0, 0, 58) := rfl
theorem i_Reader_readPart_58 : ins m_Reader_readPart 58 = some (.iload_n 1, 1, 0, 0, 59) := rfl
theorem i_Reader_readPart_59 : ins m_Reader_readPart 59 = some (.bipush 65, 2, 0, 0, 61) := rfl
theorem i_Reader_readPart_61 : ins m_Reader_readPart 61 = some (.isub, 1, 0, 0, 62) := rfl
theorem i_Reader_readPart_62 : ins m_Reader_readPart 62 = some (.invokevirtual 144, 3, 51, 1, 65) := rfl
theorem i_Reader_readPart_65 : ins m_Reader_readPart 65 = some (.goto 7, 3, 72, 0, 68) := rfl
theorem i_Reader_readPart_68 : ins m_Reader_readPart 68 = some (.aload_n 0, 1, 0, 0, 69) := rfl
theorem i_Reader_readPart_69 : ins m_Reader_readPart 69 = some (.invokevirtual 148, 3, 52, 0, 72) := rfl
theorem i_Reader_readPart_72 : ins m_Reader_readPart 72 = some (.areturn, 1, 0, 0, 73) := rfl
theorem i_Reader_newPart_0 : ins m_Reader_newPart 0 = some (.new 121, 3, 4, 0, 3) := rfl
theorem i_Reader_newPart_3 : ins m_Reader_newPart 3 = some (.dup, 1, 0, 0, 4) := rfl
theorem i_Reader_newPart_4 : ins m_Reader_newPart 4 = some (.iload_n 1, 1, 0, 0, 5) := rfl
theorem i_Reader_newPart_5 : ins m_Reader_newPart 5 = some (.invokespecial 139, 3, 30, 1, 8) := rfl
theorem i_Reader_newPart_8 : ins m_Reader_newPart 8 = some (.astore_n 2, 1, 0, 0, 9) := rfl
theorem i_Reader_newPart_9 : ins m_Reader_newPart 9 = some (.iload_n 1, 1, 0, 0, 10) := rfl
theorem i_Reader_newPart_10 : ins m_Reader_newPart 10 = some (.bipush 6, 2, 0, 0, 12) := rfl
theorem i_Reader_newPart_12 : ins m_Reader_newPart 12 = some (.if_icmp .gt 34, 3, 46, 0, 15) := rfl
theorem i_Reader_newPart_15 : ins m_Reader_newPart 15 = some (.aload_n 2, 1, 0, 0, 16) := rfl
theorem i_Reader_newPart_16 : ins m_Reader_newPart 16 = some (.aload_n 0, 1, 0, 0, 17) := rfl
theorem i_Reader_newPart_17 : ins m_Reader_newPart 17 = some (.getfield 12, 3, 501, 0, 20) := rfl
theorem i_Reader_newPart_20 : ins m_Reader_newPart 20 = some (.iload_n 1, 1, 0, 0, 21) := rfl
theorem i_Reader_newPart_21 : ins m_Reader_newPart 21 = some (.aload_n 0, 1, 0, 0, 22) := rfl
theorem i_Reader_newPart_22 : ins m_Reader_newPart 22 = some (.getfield 27, 3, 503, 0, 25) := rfl
theorem i_Reader_newPart_25 : ins m_Reader_newPart 25 = some (.invokevirtual 151, 3, 8, 2, 28) := rfl
theorem i_Reader_newPart_28 : ins m_Reader_newPart 28 = some (.putfield 155, 3, 402, 0, 31) := rfl
theorem i_Reader_newPart_31 : ins m_Reader_newPart 31 = some (.aload_n 2, 1, 0, 0, 32) := rfl
theorem i_Reader_newPart_32 : ins m_Reader_newPart 32 = some (.getfield 155, 3, 402, 0, 35) := rfl
theorem i_Reader_newPart_35 : ins m_Reader_newPart 35 = some (.ifnonnull 11, 3, 46, 0, 38) := rfl
theorem i_Reader_newPart_38 : ins m_Reader_newPart 38 = some (.aload_n 0, 1, 0, 0, 39) := rfl
theorem i_Reader_newPart_39 : ins m_Reader_newPart 39 = some (.aload_n 0, 1, 0, 0, 40) := rfl
theorem i_Reader_newPart_40 : ins m_Reader_newPart 40 = some (.getfield 27, 3, 503, 0, 43) := rfl
theorem i_Reader_newPart_43 : ins m_Reader_newPart 43 = some (.invokevirtual 76, 3, 34, 1, 46) := rfl
theorem i_Reader_newPart_46 : ins m_Reader_newPart 46 = some (.aload_n 2, 1, 0, 0, 47) := rfl
theorem i_Reader_newPart_47 : ins m_Reader_newPart 47 = some (.areturn, 1, 0, 0, 48) := rfl
theorem i_Reader_readQuoted_0 : ins m_Reader_readQuoted 0 = some (.aload_n 0, 1, 0, 0, 1) := rfl
theorem i_Reader_readQuoted_1 : ins m_Reader_readQuoted 1 = some (.iconst 0, 1, 0, 0, 2) := rfl
theorem i_Reader_readQuoted_2 : ins m_Reader_readQuoted 2 = some (.invokevirtual 159, 3, 47, 1, 5) := rfl
theorem i_Reader_readQuoted_5 : ins m_Reader_readQuoted 5 = some (.astore_n 1, 1, 0, 0, 6) := rfl
theorem i_Reader_readQuoted_6 : ins m_Reader_readQuoted 6 = some (.aload_n 0, 1, 0, 0, 7) := rfl
theorem i_Reader_readQuoted_7 : ins m_Reader_readQuoted 7 = some (.dup, 1, 0, 0, 8) := rfl
theorem i_Reader_readQuoted_8 : ins m_Reader_readQuoted 8 = some (.getfield 27, 3, 503, 0, 11) := rfl
theorem i_Reader_readQuoted_11 : ins m_Reader_readQuoted 11 = some (.iconst 1, 1, 0, 0, 12) := rfl
theorem i_Reader_readQuoted_12 : ins m_Reader_readQuoted 12 = some (.iadd, 1, 0, 0, 13) := rfl
theorem i_Reader_readQuoted_13 : ins m_Reader_readQuoted 13 = some (.putfield 27, 3, 503, 0, 16) := rfl
theorem i_Reader_readQuoted_16 : ins m_Reader_readQuoted 16 = some (.aload_n 0, 1, 0, 0, 17) := rfl
theorem i_Reader_readQuoted_17 : ins m_Reader_readQuoted 17 = some (.getfield 37, 3, 500, 0, 20) := rfl
theorem i_Reader_readQuoted_20 : ins m_Reader_readQuoted 20 = some (.aload_n 0, 1, 0, 0, 21) := rfl
theorem i_Reader_readQuoted_21 : ins m_Reader_readQuoted 21 = some (.getfield 27, 3, 503, 0, 24) := rfl
theorem i_Reader_readQuoted_24 : ins m_Reader_readQuoted 24 = some (.invokevirtual 66, 3, 61, 1, 27) := rfl
theorem i_Reader_readQuoted_27 : ins m_Reader_readQuoted 27 = some (.istore_n 2, 1, 0, 0, 28) := rfl
theorem i_Reader_readQuoted_28 : ins m_Reader_readQuoted 28 = some (.iload_n 2, 1, 0, 0, 29) := rfl
theorem i_Reader_readQuoted_29 : ins m_Reader_readQuoted 29 = some (.iconst (-1), 1, 0, 0, 30) := rfl
theorem i_Reader_readQuoted_30 : ins m_Reader_readQuoted 30 = some (.if_icmp .eq 9, 3, 39, 0, 33) := rfl
theorem i_Reader_readQuoted_33 : ins m_Reader_readQuoted 33 = some (.iload_n 2, 1, 0, 0, 34) := rfl
theorem i_Reader_readQuoted_34 : ins m_Reader_readQuoted 34 = some (.bipush 39, 2, 0, 0, 36) := rfl
theorem i_Reader_readQuoted_36 : ins m_Reader_readQuoted 36 = some (.if_icmp .ne 13, 3, 49, 0, 39) := rfl
theorem i_Reader_readQuoted_39 : ins m_Reader_readQuoted 39 = some (.aload_n 0, 1, 0, 0, 40) := rfl
theorem i_Reader_readQuoted_40 : ins m_Reader_readQuoted 40 = some (.aload_n 0, 1, 0, 0, 41) := rfl
theorem i_Reader_readQuoted_41 : ins m_Reader_readQuoted 41 = some (.getfield 27, 3, 503, 0, 44) := rfl
theorem i_Reader_readQuoted_44 : ins m_Reader_readQuoted 44 = some (.invokevirtual 76, 3, 34, 1, 47) := rfl
theorem i_Reader_readQuoted_47 : ins m_Reader_readQuoted 47 = some (.aload_n 1, 1, 0, 0, 48) := rfl
theorem i_Reader_readQuoted_48 : ins m_Reader_readQuoted 48 = some (.areturn, 1, 0, 0, 49) := rfl
theorem i_Reader_readQuoted_49 : ins m_Reader_readQuoted 49 = some (.aload_n 0, 1, 0, 0, 50) := rfl
theorem i_Reader_readQuoted_50 : ins m_Reader_readQuoted 50 = some (.dup, 1, 0, 0, 51) := rfl
theorem i_Reader_readQuoted_51 : ins m_Reader_readQuoted 51 = some (.getfield 27, 3, 503, 0, 54) := rfl
theorem i_Reader_readQuoted_54 : ins m_Reader_readQuoted 54 = some (.iconst 1, 1, 0, 0, 55) := rfl
theorem i_Reader_readQuoted_55 : ins m_Reader_readQuoted 55 = some (.iadd, 1, 0, 0, 56) := rfl
theorem i_Reader_readQuoted_56 : ins m_Reader_readQuoted 56 = some (.putfield 27, 3, 503, 0, 59) := rfl
theorem i_Reader_readQuoted_59 : ins m_Reader_readQuoted 59 = some (.aload_n 0, 1, 0, 0, 60) := rfl
theorem i_Reader_readQuoted_60 : ins m_Reader_readQuoted 60 = some (.aload_n 1, 1, 0, 0, 61) := rfl
theorem i_Reader_readQuoted_61 : ins m_Reader_readQuoted 61 = some (.bipush 39, 2, 0, 0, 63) := rfl
theorem i_Reader_readQuoted_63 : ins m_Reader_readQuoted 63 = some (.iload_n 2, 1, 0, 0, 64) := rfl
theorem i_Reader_readQuoted_64 : ins m_Reader_readQuoted 64 = some (.iload_n 2, 1, 0, 0, 65) := rfl
theorem i_Reader_readQuoted_65 : ins m_Reader_readQuoted 65 = some (.invokevirtual 162, 3, 50, 4, 68) := rfl
theorem i_Reader_readQuoted_68 : ins m_Reader_readQuoted 68 = some (.aload_n 0, 1, 0, 0, 69) := rfl
theorem i_Reader_readQuoted_69 : ins m_Reader_readQuoted 69 = some (.getfield 12, 3, 501, 0, 72) := rfl
theorem i_Reader_readQuoted_72 : ins m_Reader_readQuoted 72 = some (.iload_n 2, 1, 0, 0, 73) := rfl
theorem i_Reader_readQuoted_73 : ins m_Reader_readQuoted 73 = some (.invokevirtual 166, 3, 9, 1, 76) := rfl
theorem i_Reader_readQuoted_76 : ins m_Reader_readQuoted 76 = some (.aload_n 1, 1, 0, 0, 77) := rfl
theorem i_Reader_readQuoted_77 : ins m_Reader_readQuoted 77 = some (.areturn, 1, 0, 0, 78) := rfl
theorem i_Reader_readRange_0 : ins m_Reader_readRange 0 = some (.aload_n 0, 1, 0, 0, 1) := rfl
theorem i_Reader_readRange_1 : ins m_Reader_readRange 1 = some (.iconst 1, 1, 0, 0, 2) := rfl
theorem i_Reader_readRange_2 : ins m_Reader_readRange 2 = some (.invokevirtual 159, 3, 47, 1, 5) := rfl
theorem i_Reader_readRange_5 : ins m_Reader_readRange 5 = some (.astore_n 1, 1, 0, 0, 6) := rfl
theorem i_Reader_readRange_6 : ins m_Reader_readRange 6 = some (.aload_n 0, 1, 0, 0, 7) := rfl
theorem i_Reader_readRange_7 : ins m_Reader_readRange 7 = some (.dup, 1, 0, 0, 8) := rfl
theorem i_Reader_readRange_8 : ins m_Reader_readRange 8 = some (.getfield 27, 3, 503, 0, 11) := rfl
theorem i_Reader_readRange_11 : ins m_Reader_readRange 11 = some (.iconst 1, 1, 0, 0, 12) := rfl
theorem i_Reader_readRange_12 : ins m_Reader_readRange 12 = some (.iadd, 1, 0, 0, 13) := rfl
theorem i_Reader_readRange_13 : ins m_Reader_readRange 13 = some (.putfield 27, 3, 503, 0, 16) := rfl
theorem i_Reader_readRange_16 : ins m_Reader_readRange 16 = some (.aload_n 0, 1, 0, 0, 17) := rfl
theorem i_Reader_readRange_17 : ins m_Reader_readRange 17 = some (.getfield 37, 3, 500, 0, 20) := rfl
theorem i_Reader_readRange_20 : ins m_Reader_readRange 20 = some (.aload_n 0, 1, 0, 0, 21) := rfl
theorem i_Reader_readRange_21 : ins m_Reader_readRange 21 = some (.getfield 27, 3, 503, 0, 24) := rfl
theorem i_Reader_readRange_24 : ins m_Reader_readRange 24 = some (.invokevirtual 66, 3, 61, 1, 27) := rfl
theorem i_Reader_readRange_27 : ins m_Reader_readRange 27 = some (.istore_n 2, 1, 0, 0, 28) := rfl
theorem i_Reader_readRange_28 : ins m_Reader_readRange 28 = some (.iload_n 2, 1, 0, 0, 29) := rfl
theorem i_Reader_readRange_29 : ins m_Reader_readRange 29 = some (.iconst (-1), 1, 0, 0, 30) := rfl
theorem i_Reader_readRange_30 : ins m_Reader_readRange 30 = some (.if_icmp .ne 13, 3, 43, 0, 33) := rfl
theorem i_Reader_readRange_33 : ins m_Reader_readRange 33 = some (.aload_n 0, 1, 0, 0, 34) := rfl
theorem i_Reader_readRange_34 : ins m_Reader_readRange 34 = some (.aload_n 0, 1, 0, 0, 35) := rfl
theorem i_Reader_readRange_35 : ins m_Reader_readRange 35 = some (.getfield 27, 3, 503, 0, 38) := rfl
theorem i_Reader_readRange_38 : ins m_Reader_readRange 38 = some (.invokevirtual 76, 3, 34, 1, 41) := rfl
theorem i_Reader_readRange_41 : ins m_Reader_readRange 41 = some (.aload_n 1, 1, 0, 0, 42) := rfl
theorem i_Reader_readRange_42 : ins m_Reader_readRange 42 = some (.areturn, 1, 0, 0, 43) := rfl
theorem i_Reader_readRange_43 : ins m_Reader_readRange 43 = some (.aload_n 0, 1, 0, 0, 44) := rfl
theorem i_Reader_readRange_44 : ins m_Reader_readRange 44 = some (.dup, 1, 0, 0, 45) := rfl
theorem i_Reader_readRange_45 : ins m_Reader_readRange 45 = some (.getfield 27, 3, 503, 0, 48) := rfl
theorem i_Reader_readRange_48 : ins m_Reader_readRange 48 = some (.iconst 1, 1, 0, 0, 49) := rfl
theorem i_Reader_readRange_49 : ins m_Reader_readRange 49 = some (.iadd, 1, 0, 0, 50) := rfl
theorem i_Reader_readRange_50 : ins m_Reader_readRange 50 = some (.putfield 27, 3, 503, 0, 53) := rfl
theorem i_Reader_readRange_53 : ins m_Reader_readRange 53 = some (.aload_n 0, 1, 0, 0, 54) := rfl
theorem i_Reader_readRange_54 : ins m_Reader_readRange 54 = some (.getfield 37, 3, 500, 0, 57) := rfl
theorem i_Reader_readRange_57 : ins m_Reader_readRange 57 = some (.aload_n 0, 1, 0, 0, 58) := rfl
theorem i_Reader_readRange_58 : ins m_Reader_readRange 58 = some (.getfield 27, 3, 503, 0, 61) := rfl
theorem i_Reader_readRange_61 : ins m_Reader_readRange 61 = some (.invokevirtual 66, 3, 61, 1, 64) := rfl
theorem i_Reader_readRange_64 : ins m_Reader_readRange 64 = some (.istore_n 3, 1, 0, 0, 65) := rfl
theorem i_Reader_readRange_65 : ins m_Reader_readRange 65 = some (.iload_n 3, 1, 0, 0, 66) := rfl
theorem i_Reader_readRange_66 : ins m_Reader_readRange 66 = some (.iload_n 2, 1, 0, 0, 67) := rfl
theorem i_Reader_readRange_67 : ins m_Reader_readRange 67 = some (.if_icmp .ge 13, 3, 80, 0, 70) := rfl
theorem i_Reader_readRange_70 : ins m_Reader_readRange 70 = some (.aload_n 0, 1, 0, 0, 71) := rfl
theorem i_Reader_readRange_71 : ins m_Reader_readRange 71 = some (.aload_n 0, 1, 0, 0, 72) := rfl
theorem i_Reader_readRange_72 : ins m_Reader_readRange 72 = some (.getfield 27, 3, 503, 0, 75) := rfl
theorem i_Reader_readRange_75 : ins m_Reader_readRange 75 = some (.invokevirtual 76, 3, 34, 1, 78) := rfl
theorem i_Reader_readRange_78 : ins m_Reader_readRange 78 = some (.aload_n 1, 1, 0, 0, 79) := rfl
theorem i_Reader_readRange_79 : ins m_Reader_readRange 79 = some (.areturn, 1, 0, 0, 80) := rfl
theorem i_Reader_readRange_80 : ins m_Reader_readRange 80 = some (.aload_n 0, 1, 0, 0, 81) := rfl
theorem i_Reader_readRange_81 : ins m_Reader_readRange 81 = some (.dup, 1, 0, 0, 82) := rfl
theorem i_Reader_readRange_82 : ins m_Reader_readRange 82 = some (.getfield 27, 3, 503, 0, 85) := rfl
theorem i_Reader_readRange_85 : ins m_Reader_readRange 85 = some (.iconst 1, 1, 0, 0, 86) := rfl
theorem i_Reader_readRange_86 : ins m_Reader_readRange 86 = some (.iadd, 1, 0, 0, 87) := rfl
theorem i_Reader_readRange_87 : ins m_Reader_readRange 87 = some (.putfield 27, 3, 503, 0, 90) := rfl
theorem i_Reader_readRange_90 : ins m_Reader_readRange 90 = some (.aload_n 0, 1, 0, 0, 91) := rfl
theorem i_Reader_readRange_91 : ins m_Reader_readRange 91 = some (.aload_n 1, 1, 0, 0, 92) := rfl
theorem i_Reader_readRange_92 : ins m_Reader_readRange 92 = some (.bipush 93, 2, 0, 0, 94) := rfl
theorem i_Reader_readRange_94 : ins m_Reader_readRange 94 = some (.iload_n 2, 1, 0, 0, 95) := rfl
theorem i_Reader_readRange_95 : ins m_Reader_readRange 95 = some (.iload_n 3, 1, 0, 0, 96) := rfl
theorem i_Reader_readRange_96 : ins m_Reader_readRange 96 = some (.invokevirtual 162, 3, 50, 4, 99) := rfl
theorem i_Reader_readRange_99 : ins m_Reader_readRange 99 = some (.aload_n 1, 1, 0, 0, 100) := rfl
theorem i_Reader_readRange_100 : ins m_Reader_readRange 100 = some (.areturn, 1, 0, 0, 101) := rfl
theorem i_Reader_closeBytes_0 : ins m_Reader_closeBytes 0 = some (.aload_n 0, 1, 0, 0, 1) := rfl
theorem i_Reader_closeBytes_1 : ins m_Reader_closeBytes 1 = some (.getfield 37, 3, 500, 0, 4) := rfl
theorem i_Reader_closeBytes_4 : ins m_Reader_closeBytes 4 = some (.aload_n 0, 1, 0, 0, 5) := rfl
theorem i_Reader_closeBytes_5 : ins m_Reader_closeBytes 5 = some (.getfield 27, 3, 503, 0, 8) := rfl
theorem i_Reader_closeBytes_8 : ins m_Reader_closeBytes 8 = some (.invokevirtual 66, 3, 61, 1, 11) := rfl
theorem i_Reader_closeBytes_11 : ins m_Reader_closeBytes 11 = some (.iload_n 2, 1, 0, 0, 12) := rfl
theorem i_Reader_closeBytes_12 : ins m_Reader_closeBytes 12 = some (.if_icmp .eq 14, 3, 26, 0, 15) := rfl
theorem i_Reader_closeBytes_15 : ins m_Reader_closeBytes 15 = some (.aload_n 0, 1, 0, 0, 16) := rfl
theorem i_Reader_closeBytes_16 : ins m_Reader_closeBytes 16 = some (.aload_n 0, 1, 0, 0, 17) := rfl
theorem i_Reader_closeBytes_17 : ins m_Reader_closeBytes 17 = some (.getfield 27, 3, 503, 0, 20) := rfl
theorem i_Reader_closeBytes_20 : ins m_Reader_closeBytes 20 = some (.invokevirtual 76, 3, 34, 1, 23) := rfl
theorem i_Reader_closeBytes_23 : ins m_Reader_closeBytes 23 = some (.goto 13, 3, 36, 0, 26) := rfl
theorem i_Reader_closeBytes_26 : ins m_Reader_closeBytes 26 = some (.aload_n 0, 1, 0, 0, 27) := rfl
theorem i_Reader_closeBytes_27 : ins m_Reader_closeBytes 27 = some (.dup, 1, 0, 0, 28) := rfl
theorem i_Reader_closeBytes_28 : ins m_Reader_closeBytes 28 = some (.getfield 27, 3, 503, 0, 31) := rfl
theorem i_Reader_closeBytes_31 : ins m_Reader_closeBytes 31 = some (.iconst 1, 1, 0, 0, 32) := rfl
theorem i_Reader_closeBytes_32 : ins m_Reader_closeBytes 32 = some (.iadd, 1, 0, 0, 33) := rfl
theorem i_Reader_closeBytes_33 : ins m_Reader_closeBytes 33 = some (.putfield 27, 3, 503, 0, 36) := rfl
theorem i_Reader_closeBytes_36 : ins m_Reader_closeBytes 36 = some (.aload_n 1, 1, 0, 0, 37) := rfl
theorem i_Reader_closeBytes_37 : ins m_Reader_closeBytes 37 = some (.getfield 155, 3, 402, 0, 40) := rfl
theorem i_Reader_closeBytes_40 : ins m_Reader_closeBytes 40 = some (.ifnull 20, 3, 60, 0, 43) := rfl
theorem i_Reader_closeBytes_43 : ins m_Reader_closeBytes 43 = some (.aload_n 1, 1, 0, 0, 44) := rfl
theorem i_Reader_closeBytes_44 : ins m_Reader_closeBytes 44 = some (.getfield 155, 3, 402, 0, 47) := rfl
theorem i_Reader_closeBytes_47 : ins m_Reader_closeBytes 47 = some (.iload_n 3, 1, 0, 0, 48) := rfl
theorem i_Reader_closeBytes_48 : ins m_Reader_closeBytes 48 = some (.putfield 169, 3, 3, 0, 51) := rfl
theorem i_Reader_closeBytes_51 : ins m_Reader_closeBytes 51 = some (.aload_n 1, 1, 0, 0, 52) := rfl
theorem i_Reader_closeBytes_52 : ins m_Reader_closeBytes 52 = some (.getfield 155, 3, 402, 0, 55) := rfl
theorem i_Reader_closeBytes_55 : ins m_Reader_closeBytes 55 = some (.iload 4, 2, 0, 0, 57) := rfl
theorem i_Reader_closeBytes_57 : ins m_Reader_closeBytes 57 = some (.putfield 174, 3, 4, 0, 60) := rfl
theorem i_Reader_closeBytes_60 : ins m_Reader_closeBytes 60 = some (.return_, 1, 0, 0, 61) := rfl
theorem i_Reader_readName_0 : ins m_Reader_readName 0 = some (.new 121, 3, 4, 0, 3) := rfl
theorem i_Reader_readName_3 : ins m_Reader_readName 3 = some (.dup, 1, 0, 0, 4) := rfl
theorem i_Reader_readName_4 : ins m_Reader_readName 4 = some (.bipush 12, 2, 0, 0, 6) := rfl
theorem i_Reader_readName_6 : ins m_Reader_readName 6 = some (.invokespecial 139, 3, 30, 1, 9) := rfl
theorem i_Reader_readName_9 : ins m_Reader_readName 9 = some (.astore_n 2, 1, 0, 0, 10) := rfl
theorem i_Reader_readName_10 : ins m_Reader_readName 10 = some (.aload_n 2, 1, 0, 0, 11) := rfl
theorem i_Reader_readName_11 : ins m_Reader_readName 11 = some (.iload_n 1, 1, 0, 0, 12) := rfl
theorem i_Reader_readName_12 : ins m_Reader_readName 12 = some (.putfield 177, 3, 403, 0, 15) := rfl
theorem i_Reader_readName_15 : ins m_Reader_readName 15 = some (.aload_n 0, 1, 0, 0, 16) := rfl
theorem i_Reader_readName_16 : ins m_Reader_readName 16 = some (.getfield 23, 3, 502, 0, 19) := rfl
theorem i_Reader_readName_19 : ins m_Reader_readName 19 = some (.iload_n 1, 1, 0, 0, 20) := rfl
theorem i_Reader_readName_20 : ins m_Reader_readName 20 = some (.invokevirtual 66, 3, 61, 1, 23) := rfl
theorem i_Reader_readName_23 : ins m_Reader_readName 23 = some (.iconst (-1), 1, 0, 0, 24) := rfl
theorem i_Reader_readName_24 : ins m_Reader_readName 24 = some (.if_icmp .ne 15, 3, 39, 0, 27) := rfl
theorem i_Reader_readName_27 : ins m_Reader_readName 27 = some (.aload_n 0, 1, 0, 0, 28) := rfl
theorem i_Reader_readName_28 : ins m_Reader_readName 28 = some (.getfield 23, 3, 502, 0, 31) := rfl
theorem i_Reader_readName_31 : ins m_Reader_readName 31 = some (.iload_n 1, 1, 0, 0, 32) := rfl
theorem i_Reader_readName_32 : ins m_Reader_readName 32 = some (.aload_n 0, 1, 0, 0, 33) := rfl
theorem i_Reader_readName_33 : ins m_Reader_readName 33 = some (.getfield 27, 3, 503, 0, 36) := rfl
theorem i_Reader_readName_36 : ins m_Reader_readName 36 = some (.invokevirtual 180, 3, 62, 2, 39) := rfl
theorem i_Reader_readName_39 : ins m_Reader_readName 39 = some (.aload_n 0, 1, 0, 0, 40) := rfl
theorem i_Reader_readName_40 : ins m_Reader_readName 40 = some (.dup, 1, 0, 0, 41) := rfl
theorem i_Reader_readName_41 : ins m_Reader_readName 41 = some (.getfield 27, 3, 503, 0, 44) := rfl
theorem i_Reader_readName_44 : ins m_Reader_readName 44 = some (.iconst 1, 1, 0, 0, 45) := rfl
theorem i_Reader_readName_45 : ins m_Reader_readName 45 = some (.iadd, 1, 0, 0, 46) := rfl
theorem i_Reader_readName_46 : ins m_Reader_readName 46 = some (.putfield 27, 3, 503, 0, 49) := rfl
theorem i_Reader_readName_49 : ins m_Reader_readName 49 = some (.aload_n 2, 1, 0, 0, 50) := rfl
theorem i_Reader_readName_50 : ins m_Reader_readName 50 = some (.areturn, 1, 0, 0, 51) := rfl
theorem i_Reader_readWord_0 : ins m_Reader_readWord 0 = some (.aload_n 0, 1, 0, 0, 1) := rfl
theorem i_Reader_readWord_1 : ins m_Reader_readWord 1 = some (.getfield 27, 3, 503, 0, 4) := rfl
theorem i_Reader_readWord_4 : ins m_Reader_readWord 4 = some (.istore_n 1, 1, 0, 0, 5) := rfl
theorem i_Reader_readWord_5 : ins m_Reader_readWord 5 = some (.iload_n 1, 1, 0, 0, 6) := rfl
theorem i_Reader_readWord_6 : ins m_Reader_readWord 6 = some (.aload_n 0, 1, 0, 0, 7) := rfl
theorem i_Reader_readWord_7 : ins m_Reader_readWord 7 = some (.getfield 37, 3, 500, 0, 10) := rfl
theorem i_Reader_readWord_10 : ins m_Reader_readWord 10 = some (.invokevirtual 62, 3, 60, 0, 13) := rfl
theorem i_Reader_readWord_13 : ins m_Reader_readWord 13 = some (.if_icmp .ge 23, 3, 36, 0, 16) := rfl
theorem i_Reader_readWord_16 : ins m_Reader_readWord 16 = some (.aload_n 0, 1, 0, 0, 17) := rfl
theorem i_Reader_readWord_17 : ins m_Reader_readWord 17 = some (.getfield 37, 3, 500, 0, 20) := rfl
theorem i_Reader_readWord_20 : ins m_Reader_readWord 20 = some (.iload_n 1, 1, 0, 0, 21) := rfl
theorem i_Reader_readWord_21 : ins m_Reader_readWord 21 = some (.invokevirtual 66, 3, 61, 1, 24) := rfl
theorem i_Reader_readWord_24 : ins m_Reader_readWord 24 = some (.invokestatic 124, 3, 40, 1, 27) := rfl
theorem i_Reader_readWord_27 : ins m_Reader_readWord 27 = some (.ifCond .eq 9, 3, 36, 0, 30) := rfl
theorem i_Reader_readWord_30 : ins m_Reader_readWord 30 = some (.iinc 1 1, 3, 0, 0, 33) := rfl
theorem i_Reader_readWord_33 : ins m_Reader_readWord 33 = some (.goto (-28), 3, 5, 0, 36) := rfl
theorem i_Reader_readWord_36 : ins m_Reader_readWord 36 = some (.aload_n 0, 1, 0, 0, 37) := rfl
theorem i_Reader_readWord_37 : ins m_Reader_readWord 37 = some (.iload_n 1, 1, 0, 0, 38) := rfl
theorem i_Reader_readWord_38 : ins m_Reader_readWord 38 = some (.invokevirtual 183, 3, 53, 1, 41) := rfl
theorem i_Reader_readWord_41 : ins m_Reader_readWord 41 = some (.istore_n 2, 1, 0, 0, 42) := rfl
theorem i_Reader_readWord_42 : ins m_Reader_readWord 42 = some (.iload_n 2, 1, 0, 0, 43) := rfl
theorem i_Reader_readWord_43 : ins m_Reader_readWord 43 = some (.iconst (-1), 1, 0, 0, 44) := rfl
theorem i_Reader_readWord_44 : ins m_Reader_readWord 44 = some (.if_icmp .ne 21, 3, 65, 0, 47) := rfl
theorem i_Reader_readWord_47 : ins m_Reader_readWord 47 = some (.aload_n 0, 1, 0, 0, 48) := rfl
theorem i_Reader_readWord_48 : ins m_Reader_readWord 48 = some (.aload_n 0, 1, 0, 0, 49) := rfl
theorem i_Reader_readWord_49 : ins m_Reader_readWord 49 = some (.getfield 27, 3, 503, 0, 52) := rfl
theorem i_Reader_readWord_52 : ins m_Reader_readWord 52 = some (.invokevirtual 76, 3, 34, 1, 55) := rfl
theorem i_Reader_readWord_55 : ins m_Reader_readWord 55 = some (.new 121, 3, 4, 0, 58) := rfl
theorem i_Reader_readWord_58 : ins m_Reader_readWord 58 = some (.dup, 1, 0, 0, 59) := rfl
theorem i_Reader_readWord_59 : ins m_Reader_readWord 59 = some (.bipush 7, 2, 0, 0, 61) := rfl
theorem i_Reader_readWord_61 : ins m_Reader_readWord 61 = some (.invokespecial 139, 3, 30, 1, 64) := rfl
theorem i_Reader_readWord_64 : ins m_Reader_readWord 64 = some (.areturn, 1, 0, 0, 65) := rfl
theorem i_Reader_readWord_65 : ins m_Reader_readWord 65 = some (.aload_n 0, 1, 0, 0, 66) := rfl
theorem i_Reader_readWord_66 : ins m_Reader_readWord 66 = some (.iload_n 2, 1, 0, 0, 67) := rfl
theorem i_Reader_readWord_67 : ins m_Reader_readWord 67 = some (.invokevirtual 159, 3, 47, 1, 70) := rfl
theorem i_Reader_readWord_70 : ins m_Reader_readWord 70 = some (.astore_n 3, 1, 0, 0, 71) := rfl
theorem i_Reader_readWord_71 : ins m_Reader_readWord 71 = some (.aload_n 0, 1, 0, 0, 72) := rfl
theorem i_Reader_readWord_72 : ins m_Reader_readWord 72 = some (.iload_n 1, 1, 0, 0, 73) := rfl
theorem i_Reader_readWord_73 : ins m_Reader_readWord 73 = some (.putfield 27, 3, 503, 0, 76) := rfl
theorem i_Reader_readWord_76 : ins m_Reader_readWord 76 = some (.iload_n 2, 1, 0, 0, 77) := rfl
theorem i_Reader_readWord_77 : ins m_Reader_readWord 77 = some (.bipush 10, 2, 0, 0, 79) := rfl
theorem i_Reader_readWord_79 : ins m_Reader_readWord 79 = some (.if_icmp .ne 11, 3, 90, 0, 82) := rfl
theorem i_Reader_readWord_82 : ins m_Reader_readWord 82 = some (.aload_n 0, 1, 0, 0, 83) := rfl
theorem i_Reader_readWord_83 : ins m_Reader_readWord 83 = some (.aload_n 3, 1, 0, 0, 84) := rfl
theorem i_Reader_readWord_84 : ins m_Reader_readWord 84 = some (.invokevirtual 186, 3, 57, 1, 87) := rfl
theorem i_Reader_readWord_87 : ins m_Reader_readWord 87 = some (.goto 31, 3, 118, 0, 90) := rfl
theorem i_Reader_readWord_90 : ins m_Reader_readWord 90 = some (.iload_n 2, 1, 0, 0, 91) := rfl
theorem i_Reader_readWord_91 : ins m_Reader_readWord 91 = some (.bipush 8, 2, 0, 0, 93) := rfl
theorem i_Reader_readWord_93 : ins m_Reader_readWord 93 = some (.if_icmp .eq 20, 3, 113, 0, 96) := rfl
theorem i_Reader_readWord_96 : ins m_Reader_readWord 96 = some (.iload_n 2, 1, 0, 0, 97) := rfl
theorem i_Reader_readWord_97 : ins m_Reader_readWord 97 = some (.iconst 5, 1, 0, 0, 98) := rfl
theorem i_Reader_readWord_98 : ins m_Reader_readWord 98 = some (.if_icmp .eq 15, 3, 113, 0, 101) := rfl
theorem i_Reader_readWord_101 : ins m_Reader_readWord 101 = some (.iload_n 2, 1, 0, 0, 102) := rfl
theorem i_Reader_readWord_102 : ins m_Reader_readWord 102 = some (.bipush 9, 2, 0, 0, 104) := rfl
theorem i_Reader_readWord_104 : ins m_Reader_readWord 104 = some (.if_icmp .eq 9, 3, 113, 0, 107) := rfl
theorem i_Reader_readWord_107 : ins m_Reader_readWord 107 = some (.iload_n 2, 1, 0, 0, 108) := rfl
theorem i_Reader_readWord_108 : ins m_Reader_readWord 108 = some (.bipush 6, 2, 0, 0, 110) := rfl
theorem i_Reader_readWord_110 : ins m_Reader_readWord 110 = some (.if_icmp .ne 8, 3, 118, 0, 113) := rfl
theorem i_Reader_readWord_113 : ins m_Reader_readWord 113 = some (.aload_n 0, 1, 0, 0, 114) := rfl
theorem i_Reader_readWord_114 : ins m_Reader_readWord 114 = some (.aload_n 3, 1, 0, 0, 115) := rfl
theorem i_Reader_readWord_115 : ins m_Reader_readWord 115 = some (.invokevirtual 140, 3, 56, 1, 118) := rfl
theorem i_Reader_readWord_118 : ins m_Reader_readWord 118 = some (.aload_n 3, 1, 0, 0, 119) := rfl
theorem i_Reader_readWord_119 : ins m_Reader_readWord 119 = some (.areturn, 1, 0, 0, 120) := rfl
theorem i_Reader_wordKind_0 : ins m_Reader_wordKind 0 = some (.aload_n 0, 1, 0, 0, 1) := rfl
theorem i_Reader_wordKind_1 : ins m_Reader_wordKind 1 = some (.ldc 189, 2, 0, 1, 3) := rfl
theorem i_Reader_wordKind_3 : ins m_Reader_wordKind 3 = some (.iload_n 1, 1, 0, 0, 4) := rfl
theorem i_Reader_wordKind_4 : ins m_Reader_wordKind 4 = some (.invokevirtual 191, 3, 54, 2, 7) := rfl
theorem i_Reader_wordKind_7 : ins m_Reader_wordKind 7 = some (.ifCond .eq 7, 3, 14, 0, 10) := rfl
theorem i_Reader_wordKind_10 : ins m_Reader_wordKind 10 = some (.iconst 2, 1, 0, 0, 11) := rfl
theorem i_Reader_wordKind_11 : ins m_Reader_wordKind 11 = some (.goto 121, 3, 132, 0, 14) := rfl
theorem i_Reader_wordKind_14 : ins m_Reader_wordKind 14 = some (.aload_n 0, 1, 0, 0, 15) := rfl
theorem i_Reader_wordKind_15 : ins m_Reader_wordKind 15 = some (.ldc 195, 2, 1, 1, 17) := rfl
theorem i_Reader_wordKind_17 : ins m_Reader_wordKind 17 = some (.iload_n 1, 1, 0, 0, 18) := rfl
theorem i_Reader_wordKind_18 : ins m_Reader_wordKind 18 = some (.invokevirtual 191, 3, 54, 2, 21) := rfl
theorem i_Reader_wordKind_21 : ins m_Reader_wordKind 21 = some (.ifCond .eq 7, 3, 28, 0, 24) := rfl
theorem i_Reader_wordKind_24 : ins m_Reader_wordKind 24 = some (.iconst 3, 1, 0, 0, 25) := rfl
theorem i_Reader_wordKind_25 : ins m_Reader_wordKind 25 = some (.goto 107, 3, 132, 0, 28) := rfl
theorem i_Reader_wordKind_28 : ins m_Reader_wordKind 28 = some (.aload_n 0, 1, 0, 0, 29) := rfl
theorem i_Reader_wordKind_29 : ins m_Reader_wordKind 29 = some (.ldc 197, 2, 2, 1, 31) := rfl
theorem i_Reader_wordKind_31 : ins m_Reader_wordKind 31 = some (.iload_n 1, 1, 0, 0, 32) := rfl
theorem i_Reader_wordKind_32 : ins m_Reader_wordKind 32 = some (.invokevirtual 191, 3, 54, 2, 35) := rfl
theorem i_Reader_wordKind_35 : ins m_Reader_wordKind 35 = some (.ifCond .eq 7, 3, 42, 0, 38) := rfl
theorem i_Reader_wordKind_38 : ins m_Reader_wordKind 38 = some (.iconst 4, 1, 0, 0, 39) := rfl
theorem i_Reader_wordKind_39 : ins m_Reader_wordKind 39 = some (.goto 93, 3, 132, 0, 42) := rfl
theorem i_Reader_wordKind_42 : ins m_Reader_wordKind 42 = some (.aload_n 0, 1, 0, 0, 43) := rfl
theorem i_Reader_wordKind_43 : ins m_Reader_wordKind 43 = some (.ldc 199, 2, 3, 1, 45) := rfl
theorem i_Reader_wordKind_45 : ins m_Reader_wordKind 45 = some (.iload_n 1, 1, 0, 0, 46) := rfl
theorem i_Reader_wordKind_46 : ins m_Reader_wordKind 46 = some (.invokevirtual 191, 3, 54, 2, 49) := rfl
theorem i_Reader_wordKind_49 : ins m_Reader_wordKind 49 = some (.ifCond .eq 8, 3, 57, 0, 52) := rfl
theorem i_Reader_wordKind_52 : ins m_Reader_wordKind 52 = some (.bipush 7, 2, 0, 0, 54) := rfl
theorem i_Reader_wordKind_54 : ins m_Reader_wordKind 54 = some (.goto 78, 3, 132, 0, 57) := rfl
theorem i_Reader_wordKind_57 : ins m_Reader_wordKind 57 = some (.aload_n 0, 1, 0, 0, 58) := rfl
theorem i_Reader_wordKind_58 : ins m_Reader_wordKind 58 = some (.ldc 201, 2, 4, 1, 60) := rfl
theorem i_Reader_wordKind_60 : ins m_Reader_wordKind 60 = some (.iload_n 1, 1, 0, 0, 61) := rfl
theorem i_Reader_wordKind_61 : ins m_Reader_wordKind 61 = some (.invokevirtual 191, 3, 54, 2, 64) := rfl
theorem i_Reader_wordKind_64 : ins m_Reader_wordKind 64 = some (.ifCond .eq 8, 3, 72, 0, 67) := rfl
theorem i_Reader_wordKind_67 : ins m_Reader_wordKind 67 = some (.bipush 8, 2, 0, 0, 69) := rfl
theorem i_Reader_wordKind_69 : ins m_Reader_wordKind 69 = some (.goto 63, 3, 132, 0, 72) := rfl
theorem i_Reader_wordKind_72 : ins m_Reader_wordKind 72 = some (.aload_n 0, 1, 0, 0, 73) := rfl
theorem i_Reader_wordKind_73 : ins m_Reader_wordKind 73 = some (.ldc 203, 2, 5, 1, 75) := rfl
theorem i_Reader_wordKind_75 : ins m_Reader_wordKind 75 = some (.iload_n 1, 1, 0, 0, 76) := rfl
theorem i_Reader_wordKind_76 : ins m_Reader_wordKind 76 = some (.invokevirtual 191, 3, 54, 2, 79) := rfl
theorem i_Reader_wordKind_79 : ins m_Reader_wordKind 79 = some (.ifCond .eq 7, 3, 86, 0, 82) := rfl
theorem i_Reader_wordKind_82 : ins m_Reader_wordKind 82 = some (.iconst 5, 1, 0, 0, 83) := rfl
theorem i_Reader_wordKind_83 : ins m_Reader_wordKind 83 = some (.goto 49, 3, 132, 0, 86) := rfl
theorem i_Reader_wordKind_86 : ins m_Reader_wordKind 86 = some (.aload_n 0, 1, 0, 0, 87) := rfl
theorem i_Reader_wordKind_87 : ins m_Reader_wordKind 87 = some (.ldc 205, 2, 6, 1, 89) := rfl
theorem i_Reader_wordKind_89 : ins m_Reader_wordKind 89 = some (.iload_n 1, 1, 0, 0, 90) := rfl
theorem i_Reader_wordKind_90 : ins m_Reader_wordKind 90 = some (.invokevirtual 191, 3, 54, 2, 93) := rfl
theorem i_Reader_wordKind_93 : ins m_Reader_wordKind 93 = some (.ifCond .eq 8, 3, 101, 0, 96) := rfl
theorem i_Reader_wordKind_96 : ins m_Reader_wordKind 96 = some (.bipush 9, 2, 0, 0, 98) := rfl
theorem i_Reader_wordKind_98 : ins m_Reader_wordKind 98 = some (.goto 34, 3, 132, 0, 101) := rfl
theorem i_Reader_wordKind_101 : ins m_Reader_wordKind 101 = some (.aload_n 0, 1, 0, 0, 102) := rfl
theorem i_Reader_wordKind_102 : ins m_Reader_wordKind 102 = some (.ldc 207, 2, 7, 1, 104) := rfl
theorem i_Reader_wordKind_104 : ins m_Reader_wordKind 104 = some (.iload_n 1, 1, 0, 0, 105) := rfl
theorem i_Reader_wordKind_105 : ins m_Reader_wordKind 105 = some (.invokevirtual 191, 3, 54, 2, 108) := rfl
theorem i_Reader_wordKind_108 : ins m_Reader_wordKind 108 = some (.ifCond .eq 8, 3, 116, 0, 111) := rfl
theorem i_Reader_wordKind_111 : ins m_Reader_wordKind 111 = some (.bipush 6, 2, 0, 0, 113) := rfl
theorem i_Reader_wordKind_113 : ins m_Reader_wordKind 113 = some (.goto 19, 3, 132, 0, 116) := rfl
theorem i_Reader_wordKind_116 : ins m_Reader_wordKind 116 = some (.aload_n 0, 1, 0, 0, 117) := rfl
theorem i_Reader_wordKind_117 : ins m_Reader_wordKind 117 = some (.ldc 209, 2, 8, 1, 119) := rfl
theorem i_Reader_wordKind_119 : ins m_Reader_wordKind 119 = some (.iload_n 1, 1, 0, 0, 120) := rfl
theorem i_Reader_wordKind_120 : ins m_Reader_wordKind 120 = some (.invokevirtual 191, 3, 54, 2, 123) := rfl
theorem i_Reader_wordKind_123 : ins m_Reader_wordKind 123 = some (.ifCond .eq 8, 3, 131, 0, 126) := rfl
theorem i_Reader_wordKind_126 : ins m_Reader_wordKind 126 = some (.bipush 10, 2, 0, 0, 128) := rfl
theorem i_Reader_wordKind_128 : ins m_Reader_wordKind 128 = some (.goto 4, 3, 132, 0, 131) := rfl
theorem i_Reader_wordKind_131 : ins m_Reader_wordKind 131 = some (.iconst (-1), 1, 0, 0, 132) := rfl
theorem i_Reader_wordKind_132 : ins m_Reader_wordKind 132 = some (.ireturn, 1, 0, 0, 133) := rfl
theorem i_Reader_spells_0 : ins m_Reader_spells 0 = some (.aload_n 1, 1, 0, 0, 1) := rfl
theorem i_Reader_spells_1 : ins m_Reader_spells 1 = some (.invokevirtual 211, 3, 9001, 0, 4) := rfl
theorem i_Reader_spells_4 : ins m_Reader_spells 4 = some (.iload_n 2, 1, 0, 0, 5) := rfl
theorem i_Reader_spells_5 : ins m_Reader_spells 5 = some (.aload_n 0, 1, 0, 0, 6) := rfl
theorem i_Reader_spells_6 : ins m_Reader_spells 6 = some (.getfield 27, 3, 503, 0, 9) := rfl
theorem i_Reader_spells_9 : ins m_Reader_spells 9 = some (.isub, 1, 0, 0, 10) := rfl
theorem i_Reader_spells_10 : ins m_Reader_spells 10 = some (.if_icmp .eq 5, 3, 15, 0, 13) := rfl
theorem i_Reader_spells_13 : ins m_Reader_spells 13 = some (.iconst 0, 1, 0, 0, 14) := rfl
theorem i_Reader_spells_14 : ins m_Reader_spells 14 = some (.ireturn, 1, 0, 0, 15) := rfl
theorem i_Reader_spells_15 : ins m_Reader_spells 15 = some (.iconst 0, 1, 0, 0, 16) := rfl
theorem i_Reader_spells_16 : ins m_Reader_spells 16 = some (.istore_n 3, 1, 0, 0, 17) := rfl
theorem i_Reader_spells_17 : ins m_Reader_spells 17 = some (.iload_n 3, 1, 0, 0, 18) := rfl
theorem i_Reader_spells_18 : ins m_Reader_spells 18 = some (.aload_n 1, 1, 0, 0, 19) := rfl
theorem i_Reader_spells_19 : ins m_Reader_spells 19 = some (.invokevirtual 211, 3, 9001, 0, 22) := rfl
theorem i_Reader_spells_22 : ins m_Reader_spells 22 = some (.if_icmp .ge 32, 3, 54, 0, 25) := rfl
theorem i_Reader_spells_25 : ins m_Reader_spells 25 = some (.aload_n 0, 1, 0, 0, 26) := rfl
theorem i_Reader_spells_26 : ins m_Reader_spells 26 = some (.getfield 37, 3, 500, 0, 29) := rfl
theorem i_Reader_spells_29 : ins m_Reader_spells 29 = some (.aload_n 0, 1, 0, 0, 30) := rfl
theorem i_Reader_spells_30 : ins m_Reader_spells 30 = some (.getfield 27, 3, 503, 0, 33) := rfl
theorem i_Reader_spells_33 : ins m_Reader_spells 33 = some (.iload_n 3, 1, 0, 0, 34) := rfl
theorem i_Reader_spells_34 : ins m_Reader_spells 34 = some (.iadd, 1, 0, 0, 35) := rfl
theorem i_Reader_spells_35 : ins m_Reader_spells 35 = some (.invokevirtual 66, 3, 61, 1, 38) := rfl
theorem i_Reader_spells_38 : ins m_Reader_spells 38 = some (.aload_n 1, 1, 0, 0, 39) := rfl
theorem i_Reader_spells_39 : ins m_Reader_spells 39 = some (.iload_n 3, 1, 0, 0, 40) := rfl
theorem i_Reader_spells_40 : ins m_Reader_spells 40 = some (.invokevirtual 216, 3, 9002, 0, 43) := rfl
theorem i_Reader_spells_43 : ins m_Reader_spells 43 = some (.if_icmp .eq 5, 3, 48, 0, 46) := rfl
theorem i_Reader_spells_46 : ins m_Reader_spells 46 = some (.iconst 0, 1, 0, 0, 47) := rfl
theorem i_Reader_spells_47 : ins m_Reader_spells 47 = some (.ireturn, 1, 0, 0, 48) := rfl
theorem i_Reader_spells_48 : ins m_Reader_spells 48 = some (.iinc 3 1, 3, 0, 0, 51) := rfl
theorem i_Reader_spells_51 : ins m_Reader_spells 51 = some (.goto (-34), 3, 17, 0, 54) := rfl
theorem i_Reader_spells_54 : ins m_Reader_spells 54 = some (.iconst 1, 1, 0, 0, 55) := rfl
theorem i_Reader_spells_55 : ins m_Reader_spells 55 = some (.ireturn, 1, 0, 0, 56) := rfl
theorem i_Reader_opens_0 : ins m_Reader_opens 0 = some (.aload_n 0, 1, 0, 0, 1) := rfl
theorem i_Reader_opens_1 : ins m_Reader_opens 1 = some (.getfield 31, 3, 504, 0, 4) := rfl
theorem i_Reader_opens_4 : ins m_Reader_opens 4 = some (.bipush 8, 2, 0, 0, 6) := rfl
theorem i_Reader_opens_6 : ins m_Reader_opens 6 = some (.if_icmp .ge 12, 3, 18, 0, 9) := rfl
theorem i_Reader_opens_9 : ins m_Reader_opens 9 = some (.aload_n 0, 1, 0, 0, 10) := rfl
theorem i_Reader_opens_10 : ins m_Reader_opens 10 = some (.bipush 40, 2, 0, 0, 12) := rfl
theorem i_Reader_opens_12 : ins m_Reader_opens 12 = some (.invokevirtual 72, 3, 37, 1, 15) := rfl
theorem i_Reader_opens_15 : ins m_Reader_opens 15 = some (.ifCond .ne 18, 3, 33, 0, 18) := rfl
theorem i_Reader_opens_18 : ins m_Reader_opens 18 = some (.aload_n 0, 1, 0, 0, 19) := rfl
theorem i_Reader_opens_19 : ins m_Reader_opens 19 = some (.invokevirtual 69, 3, 35, 0, 22) := rfl
theorem i_Reader_opens_22 : ins m_Reader_opens 22 = some (.pop, 1, 0, 0, 23) := rfl
theorem i_Reader_opens_23 : ins m_Reader_opens 23 = some (.aload_n 0, 1, 0, 0, 24) := rfl
theorem i_Reader_opens_24 : ins m_Reader_opens 24 = some (.aload_n 0, 1, 0, 0, 25) := rfl
theorem i_Reader_opens_25 : ins m_Reader_opens 25 = some (.getfield 27, 3, 503, 0, 28) := rfl
theorem i_Reader_opens_28 : ins m_Reader_opens 28 = some (.invokevirtual 76, 3, 34, 1, 31) := rfl
theorem i_Reader_opens_31 : ins m_Reader_opens 31 = some (.iconst 0, 1, 0, 0, 32) := rfl
theorem i_Reader_opens_32 : ins m_Reader_opens 32 = some (.ireturn, 1, 0, 0, 33) := rfl
theorem i_Reader_opens_33 : ins m_Reader_opens 33 = some (.aload_n 0, 1, 0, 0, 34) := rfl
theorem i_Reader_opens_34 : ins m_Reader_opens 34 = some (.dup, 1, 0, 0, 35) := rfl
theorem i_Reader_opens_35 : ins m_Reader_opens 35 = some (.getfield 31, 3, 504, 0, 38) := rfl
theorem i_Reader_opens_38 : ins m_Reader_opens 38 = some (.iconst 1, 1, 0, 0, 39) := rfl
theorem i_Reader_opens_39 : ins m_Reader_opens 39 = some (.iadd, 1, 0, 0, 40) := rfl
theorem i_Reader_opens_40 : ins m_Reader_opens 40 = some (.putfield 31, 3, 504, 0, 43) := rfl
theorem i_Reader_opens_43 : ins m_Reader_opens 43 = some (.iconst 1, 1, 0, 0, 44) := rfl
theorem i_Reader_opens_44 : ins m_Reader_opens 44 = some (.ireturn, 1, 0, 0, 45) := rfl
theorem i_Reader_readBody_0 : ins m_Reader_readBody 0 = some (.aload_n 0, 1, 0, 0, 1) := rfl
theorem i_Reader_readBody_1 : ins m_Reader_readBody 1 = some (.invokevirtual 220, 3, 55, 0, 4) := rfl
theorem i_Reader_readBody_4 : ins m_Reader_readBody 4 = some (.ifCond .eq 27, 3, 31, 0, 7) := rfl
theorem i_Reader_readBody_7 : ins m_Reader_readBody 7 = some (.aload_n 1, 1, 0, 0, 8) := rfl
theorem i_Reader_readBody_8 : ins m_Reader_readBody 8 = some (.aload_n 0, 1, 0, 0, 9) := rfl
theorem i_Reader_readBody_9 : ins m_Reader_readBody 9 = some (.invokevirtual 91, 3, 42, 0, 12) := rfl
theorem i_Reader_readBody_12 : ins m_Reader_readBody 12 = some (.putfield 223, 3, 404, 0, 15) := rfl
theorem i_Reader_readBody_15 : ins m_Reader_readBody 15 = some (.aload_n 0, 1, 0, 0, 16) := rfl
theorem i_Reader_readBody_16 : ins m_Reader_readBody 16 = some (.bipush 41, 2, 0, 0, 18) := rfl
theorem i_Reader_readBody_18 : ins m_Reader_readBody 18 = some (.invokevirtual 85, 3, 38, 1, 21) := rfl
theorem i_Reader_readBody_21 : ins m_Reader_readBody 21 = some (.aload_n 0, 1, 0, 0, 22) := rfl
theorem i_Reader_readBody_22 : ins m_Reader_readBody 22 = some (.dup, 1, 0, 0, 23) := rfl
theorem i_Reader_readBody_23 : ins m_Reader_readBody 23 = some (.getfield 31, 3, 504, 0, 26) := rfl
theorem i_Reader_readBody_26 : ins m_Reader_readBody 26 = some (.iconst 1, 1, 0, 0, 27) := rfl
theorem i_Reader_readBody_27 : ins m_Reader_readBody 27 = some (.isub, 1, 0, 0, 28) := rfl
theorem i_Reader_readBody_28 : ins m_Reader_readBody 28 = some (.putfield 31, 3, 504, 0, 31) := rfl
theorem i_Reader_readBody_31 : ins m_Reader_readBody 31 = some (.return_, 1, 0, 0, 32) := rfl
theorem i_Reader_readChain_0 : ins m_Reader_readChain 0 = some (.aload_n 0, 1, 0, 0, 1) := rfl
theorem i_Reader_readChain_1 : ins m_Reader_readChain 1 = some (.invokevirtual 220, 3, 55, 0, 4) := rfl
theorem i_Reader_readChain_4 : ins m_Reader_readChain 4 = some (.ifCond .eq 41, 3, 45, 0, 7) := rfl
theorem i_Reader_readChain_7 : ins m_Reader_readChain 7 = some (.aload_n 1, 1, 0, 0, 8) := rfl
theorem i_Reader_readChain_8 : ins m_Reader_readChain 8 = some (.aload_n 0, 1, 0, 0, 9) := rfl
theorem i_Reader_readChain_9 : ins m_Reader_readChain 9 = some (.invokevirtual 91, 3, 42, 0, 12) := rfl
theorem i_Reader_readChain_12 : ins m_Reader_readChain 12 = some (.putfield 223, 3, 404, 0, 15) := rfl
theorem i_Reader_readChain_15 : ins m_Reader_readChain 15 = some (.aload_n 0, 1, 0, 0, 16) := rfl
theorem i_Reader_readChain_16 : ins m_Reader_readChain 16 = some (.bipush 44, 2, 0, 0, 18) := rfl
theorem i_Reader_readChain_18 : ins m_Reader_readChain 18 = some (.invokevirtual 85, 3, 38, 1, 21) := rfl
theorem i_Reader_readChain_21 : ins m_Reader_readChain 21 = some (.aload_n 1, 1, 0, 0, 22) := rfl
theorem i_Reader_readChain_22 : ins m_Reader_readChain 22 = some (.aload_n 0, 1, 0, 0, 23) := rfl
theorem i_Reader_readChain_23 : ins m_Reader_readChain 23 = some (.invokevirtual 91, 3, 42, 0, 26) := rfl
theorem i_Reader_readChain_26 : ins m_Reader_readChain 26 = some (.putfield 226, 3, 405, 0, 29) := rfl
theorem i_Reader_readChain_29 : ins m_Reader_readChain 29 = some (.aload_n 0, 1, 0, 0, 30) := rfl
theorem i_Reader_readChain_30 : ins m_Reader_readChain 30 = some (.bipush 41, 2, 0, 0, 32) := rfl
theorem i_Reader_readChain_32 : ins m_Reader_readChain 32 = some (.invokevirtual 85, 3, 38, 1, 35) := rfl
theorem i_Reader_readChain_35 : ins m_Reader_readChain 35 = some (.aload_n 0, 1, 0, 0, 36) := rfl
theorem i_Reader_readChain_36 : ins m_Reader_readChain 36 = some (.dup, 1, 0, 0, 37) := rfl
theorem i_Reader_readChain_37 : ins m_Reader_readChain 37 = some (.getfield 31, 3, 504, 0, 40) := rfl
theorem i_Reader_readChain_40 : ins m_Reader_readChain 40 = some (.iconst 1, 1, 0, 0, 41) := rfl
theorem i_Reader_readChain_41 : ins m_Reader_readChain 41 = some (.isub, 1, 0, 0, 42) := rfl
theorem i_Reader_readChain_42 : ins m_Reader_readChain 42 = some (.putfield 31, 3, 504, 0, 45) := rfl
theorem i_Reader_readChain_45 : ins m_Reader_readChain 45 = some (.return_, 1, 0, 0, 46) := rfl
theorem i_Reader_findUnknownName_0 : ins m_Reader_findUnknownName 0 = some (.iconst (-1), 1, 0, 0, 1) := rfl
theorem i_Reader_findUnknownName_1 : ins m_Reader_findUnknownName 1 = some (.istore_n 1, 1, 0, 0, 2) := rfl
theorem i_Reader_findUnknownName_2 : ins m_Reader_findUnknownName 2 = some (.iconst 0, 1, 0, 0, 3) := rfl
theorem i_Reader_findUnknownName_3 : ins m_Reader_findUnknownName 3 = some (.istore_n 2, 1, 0, 0, 4) := rfl
theorem i_Reader_findUnknownName_4 : ins m_Reader_findUnknownName 4 = some (.iload_n 2, 1, 0, 0, 5) := rfl
theorem i_Reader_findUnknownName_5 : ins m_Reader_findUnknownName 5 = some (.bipush 8, 2, 0, 0, 7) := rfl
theorem i_Reader_findUnknownName_7 : ins m_Reader_findUnknownName 7 = some (.if_icmp .ge 46, 3, 53, 0, 10) := rfl
theorem i_Reader_findUnknownName_10 : ins m_Reader_findUnknownName 10 = some (.aload_n 0, 1, 0, 0, 11) := rfl
theorem i_Reader_findUnknownName_11 : ins m_Reader_findUnknownName 11 = some (.getfield 23, 3, 502, 0, 14) := rfl
theorem i_Reader_findUnknownName_14 : ins m_Reader_findUnknownName 14 = some (.iload_n 2, 1, 0, 0, 15) := rfl
theorem i_Reader_findUnknownName_15 : ins m_Reader_findUnknownName 15 = some (.invokevirtual 66, 3, 61, 1, 18) := rfl
theorem i_Reader_findUnknownName_18 : ins m_Reader_findUnknownName 18 = some (.istore_n 3, 1, 0, 0, 19) := rfl
theorem i_Reader_findUnknownName_19 : ins m_Reader_findUnknownName 19 = some (.iload_n 3, 1, 0, 0, 20) := rfl
theorem i_Reader_findUnknownName_20 : ins m_Reader_findUnknownName 20 = some (.iconst (-1), 1, 0, 0, 21) := rfl
theorem i_Reader_findUnknownName_21 : ins m_Reader_findUnknownName 21 = some (.if_icmp .eq 26, 3, 47, 0, 24) := rfl
theorem i_Reader_findUnknownName_24 : ins m_Reader_findUnknownName 24 = some (.aload_n 0, 1, 0, 0, 25) := rfl
theorem i_Reader_findUnknownName_25 : ins m_Reader_findUnknownName 25 = some (.getfield 12, 3, 501, 0, 28) := rfl
theorem i_Reader_findUnknownName_28 : ins m_Reader_findUnknownName 28 = some (.iload_n 2, 1, 0, 0, 29) := rfl
theorem i_Reader_findUnknownName_29 : ins m_Reader_findUnknownName 29 = some (.invokevirtual 82, 3, 4, 1, 32) := rfl
theorem i_Reader_findUnknownName_32 : ins m_Reader_findUnknownName 32 = some (.ifCond .ne 15, 3, 47, 0, 35) := rfl
theorem i_Reader_findUnknownName_35 : ins m_Reader_findUnknownName 35 = some (.iload_n 1, 1, 0, 0, 36) := rfl
theorem i_Reader_findUnknownName_36 : ins m_Reader_findUnknownName 36 = some (.iconst (-1), 1, 0, 0, 37) := rfl
theorem i_Reader_findUnknownName_37 : ins m_Reader_findUnknownName 37 = some (.if_icmp .eq 8, 3, 45, 0, 40) := rfl
theorem i_Reader_findUnknownName_40 : ins m_Reader_findUnknownName 40 = some (.iload_n 3, 1, 0, 0, 41) := rfl
theorem i_Reader_findUnknownName_41 : ins m_Reader_findUnknownName 41 = some (.iload_n 1, 1, 0, 0, 42) := rfl
theorem i_Reader_findUnknownName_42 : ins m_Reader_findUnknownName 42 = some (.if_icmp .ge 5, 3, 47, 0, 45) := rfl
theorem i_Reader_findUnknownName_45 : ins m_Reader_findUnknownName 45 = some (.iload_n 3, 1, 0, 0, 46) := rfl
theorem i_Reader_findUnknownName_46 : ins m_Reader_findUnknownName 46 = some (.istore_n 1, 1, 0, 0, 47) := rfl
theorem i_Reader_findUnknownName_47 : ins m_Reader_findUnknownName 47 = some (.iinc 2 1, 3, 0, 0, 50) := rfl
theorem i_Reader_findUnknownName_50 : ins m_Reader_findUnknownName 50 = some (.goto (-46), 3, 4, 0, 53) := rfl
theorem i_Reader_findUnknownName_53 : ins m_Reader_findUnknownName 53 = some (.iload_n 1, 1, 0, 0, 54) := rfl
theorem i_Reader_findUnknownName_54 : ins m_Reader_findUnknownName 54 = some (.iconst (-1), 1, 0, 0, 55) := rfl
theorem i_Reader_findUnknownName_55 : ins m_Reader_findUnknownName 55 = some (.if_icmp .eq 8, 3, 63, 0, 58) := rfl
theorem i_Reader_findUnknownName_58 : ins m_Reader_findUnknownName 58 = some (.aload_n 0, 1, 0, 0, 59) := rfl
theorem i_Reader_findUnknownName_59 : ins m_Reader_findUnknownName 59 = some (.iload_n 1, 1, 0, 0, 60) := rfl
theorem i_Reader_findUnknownName_60 : ins m_Reader_findUnknownName 60 = some (.invokevirtual 76, 3, 34, 1, 63) := rfl
theorem i_Reader_findUnknownName_63 : ins m_Reader_findUnknownName 63 = some (.return_, 1, 0, 0, 64) := rfl
theorem i_Row_init_0 : ins m_Row_init 0 = some (.aload_n 0, 1, 0, 0, 1) := rfl
theorem i_Row_init_1 : ins m_Row_init 1 = some (.invokespecial 3, 3, 9000, 0, 4) := rfl
theorem i_Row_init_4 : ins m_Row_init 4 = some (.aload_n 0, 1, 0, 0, 5) := rfl
theorem i_Row_init_5 : ins m_Row_init 5 = some (.iconst 0, 1, 0, 0, 6) := rfl
theorem i_Row_init_6 : ins m_Row_init 6 = some (.putfield 9, 3, 601, 0, 9) := rfl
theorem i_Row_init_9 : ins m_Row_init 9 = some (.aload_n 0, 1, 0, 0, 10) := rfl
theorem i_Row_init_10 : ins m_Row_init 10 = some (.iload_n 1, 1, 0, 0, 11) := rfl
theorem i_Row_init_11 : ins m_Row_init 11 = some (.ifCond .ge 7, 3, 18, 0, 14) := rfl
theorem i_Row_init_14 : ins m_Row_init 14 = some (.iconst 0, 1, 0, 0, 15) := rfl
theorem i_Row_init_15 : ins m_Row_init 15 = some (.goto 4, 3, 19, 0, 18) := rfl
theorem i_Row_init_18 : ins m_Row_init 18 = some (.iload_n 1, 1, 0, 0, 19) := rfl
theorem i_Row_init_19 : ins m_Row_init 19 = some (.newarray .int, 2, 13, 0, 21) := rfl
theorem i_Row_init_21 : ins m_Row_init 21 = some (.putfield 15, 3, 600, 0, 24) := rfl
theorem i_Row_init_24 : ins m_Row_init 24 = some (.return_, 1, 0, 0, 25) := rfl
theorem i_Row_size_0 : ins m_Row_size 0 = some (.aload_n 0, 1, 0, 0, 1) := rfl
theorem i_Row_size_1 : ins m_Row_size 1 = some (.getfield 9, 3, 601, 0, 4) := rfl
theorem i_Row_size_4 : ins m_Row_size 4 = some (.ireturn, 1, 0, 0, 5) := rfl
theorem i_Row_at_0 : ins m_Row_at 0 = some (.iload_n 1, 1, 0, 0, 1) := rfl
theorem i_Row_at_1 : ins m_Row_at 1 = some (.ifCond .lt 29, 3, 30, 0, 4) := rfl
theorem i_Row_at_4 : ins m_Row_at 4 = some (.iload_n 1, 1, 0, 0, 5) := rfl
theorem i_Row_at_5 : ins m_Row_at 5 = some (.aload_n 0, 1, 0, 0, 6) := rfl
theorem i_Row_at_6 : ins m_Row_at 6 = some (.getfield 9, 3, 601, 0, 9) := rfl
theorem i_Row_at_9 : ins m_Row_at 9 = some (.if_icmp .ge 21, 3, 30, 0, 12) := rfl
theorem i_Row_at_12 : ins m_Row_at 12 = some (.iload_n 1, 1, 0, 0, 13) := rfl
theorem i_Row_at_13 : ins m_Row_at 13 = some (.aload_n 0, 1, 0, 0, 14) := rfl
theorem i_Row_at_14 : ins m_Row_at 14 = some (.getfield 15, 3, 600, 0, 17) := rfl
theorem i_Row_at_17 : ins m_Row_at 17 = some (.arraylength, 1, 0, 0, 18) := rfl
theorem i_Row_at_18 : ins m_Row_at 18 = some (.if_icmp .ge 12, 3, 30, 0, 21) := rfl
theorem i_Row_at_21 : ins m_Row_at 21 = some (.aload_n 0, 1, 0, 0, 22) := rfl
theorem i_Row_at_22 : ins m_Row_at 22 = some (.getfield 15, 3, 600, 0, 25) := rfl
theorem i_Row_at_25 : ins m_Row_at 25 = some (.iload_n 1, 1, 0, 0, 26) := rfl
theorem i_Row_at_26 : ins m_Row_at 26 = some (.iaload, 1, 0, 0, 27) := rfl
theorem i_Row_at_27 : ins m_Row_at 27 = some (.goto 4, 3, 31, 0, 30) := rfl
theorem i_Row_at_30 : ins m_Row_at 30 = some (.iconst (-1), 1, 0, 0, 31) := rfl
theorem i_Row_at_31 : ins m_Row_at 31 = some (.ireturn, 1, 0, 0, 32) := rfl
theorem i_Row_put_0 : ins m_Row_put 0 = some (.iload_n 1, 1, 0, 0, 1) := rfl
theorem i_Row_put_1 : ins m_Row_put 1 = some (.ifCond .lt 27, 3, 28, 0, 4) := rfl
theorem i_Row_put_4 : ins m_Row_put 4 = some (.iload_n 1, 1, 0, 0, 5) := rfl
theorem i_Row_put_5 : ins m_Row_put 5 = some (.aload_n 0, 1, 0, 0, 6) := rfl
theorem i_Row_put_6 : ins m_Row_put 6 = some (.getfield 9, 3, 601, 0, 9) := rfl
theorem i_Row_put_9 : ins m_Row_put 9 = some (.if_icmp .ge 19, 3, 28, 0, 12) := rfl
theorem i_Row_put_12 : ins m_Row_put 12 = some (.iload_n 1, 1, 0, 0, 13) := rfl
theorem i_Row_put_13 : ins m_Row_put 13 = some (.aload_n 0, 1, 0, 0, 14) := rfl
theorem i_Row_put_14 : ins m_Row_put 14 = some (.getfield 15, 3, 600, 0, 17) := rfl
theorem i_Row_put_17 : ins m_Row_put 17 = some (.arraylength, 1, 0, 0, 18) := rfl
theorem i_Row_put_18 : ins m_Row_put 18 = some (.if_icmp .ge 10, 3, 28, 0, 21) := rfl
theorem i_Row_put_21 : ins m_Row_put 21 = some (.aload_n 0, 1, 0, 0, 22) := rfl
theorem i_Row_put_22 : ins m_Row_put 22 = some (.getfield 15, 3, 600, 0, 25) := rfl
theorem i_Row_put_25 : ins m_Row_put 25 = some (.iload_n 1, 1, 0, 0, 26) := rfl
theorem i_Row_put_26 : ins m_Row_put 26 = some (.iload_n 2, 1, 0, 0, 27) := rfl
theorem i_Row_put_27 : ins m_Row_put 27 = some (.iastore, 1, 0, 0, 28) := rfl
theorem i_Row_put_28 : ins m_Row_put 28 = some (.return_, 1, 0, 0, 29) := rfl
theorem i_Row_add_0 : ins m_Row_add 0 = some (.aload_n 0, 1, 0, 0, 1) := rfl
theorem i_Row_add_1 : ins m_Row_add 1 = some (.getfield 9, 3, 601, 0, 4) := rfl
theorem i_Row_add_4 : ins m_Row_add 4 = some (.ifCond .lt 35, 3, 39, 0, 7) := rfl
theorem i_Row_add_7 : ins m_Row_add 7 = some (.aload_n 0, 1, 0, 0, 8) := rfl
theorem i_Row_add_8 : ins m_Row_add 8 = some (.getfield 9, 3, 601, 0, 11) := rfl
theorem i_Row_add_11 : ins m_Row_add 11 = some (.aload_n 0, 1, 0, 0, 12) := rfl
theorem i_Row_add_12 : ins m_Row_add 12 = some (.getfield 15, 3, 600, 0, 15) := rfl
theorem i_Row_add_15 : ins m_Row_add 15 = some (.arraylength, 1, 0, 0, 16) := rfl
theorem i_Row_add_16 : ins m_Row_add 16 = some (.if_icmp .ge 23, 3, 39, 0, 19) := rfl
theorem i_Row_add_19 : ins m_Row_add 19 = some (.aload_n 0, 1, 0, 0, 20) := rfl
theorem i_Row_add_20 : ins m_Row_add 20 = some (.getfield 15, 3, 600, 0, 23) := rfl
theorem i_Row_add_23 : ins m_Row_add 23 = some (.aload_n 0, 1, 0, 0, 24) := rfl
theorem i_Row_add_24 : ins m_Row_add 24 = some (.getfield 9, 3, 601, 0, 27) := rfl
theorem i_Row_add_27 : ins m_Row_add 27 = some (.iload_n 1, 1, 0, 0, 28) := rfl
theorem i_Row_add_28 : ins m_Row_add 28 = some (.iastore, 1, 0, 0, 29) := rfl
theorem i_Row_add_29 : ins m_Row_add 29 = some (.aload_n 0, 1, 0, 0, 30) := rfl
theorem i_Row_add_30 : ins m_Row_add 30 = some (.dup, 1, 0, 0, 31) := rfl
theorem i_Row_add_31 : ins m_Row_add 31 = some (.getfield 9, 3, 601, 0, 34) := rfl
theorem i_Row_add_34 : ins m_Row_add 34 = some (.iconst 1, 1, 0, 0, 35) := rfl
theorem i_Row_add_35 : ins m_Row_add 35 = some (.iadd, 1, 0, 0, 36) := rfl
theorem i_Row_add_36 : ins m_Row_add 36 = some (.putfield 9, 3, 601, 0, 39) := rfl
theorem i_Row_add_39 : ins m_Row_add 39 = some (.return_, 1, 0, 0, 40) := rfl
theorem i_Row_shrink_0 : ins m_Row_shrink 0 = some (.iload_n 1, 1, 0, 0, 1) := rfl
theorem i_Row_shrink_1 : ins m_Row_shrink 1 = some (.ifCond .lt 16, 3, 17, 0, 4) := rfl
theorem i_Row_shrink_4 : ins m_Row_shrink 4 = some (.iload_n 1, 1, 0, 0, 5) := rfl
theorem i_Row_shrink_5 : ins m_Row_shrink 5 = some (.aload_n 0, 1, 0, 0, 6) := rfl
theorem i_Row_shrink_6 : ins m_Row_shrink 6 = some (.getfield 9, 3, 601, 0, 9) := rfl
theorem i_Row_shrink_9 : ins m_Row_shrink 9 = some (.if_icmp .ge 8, 3, 17, 0, 12) := rfl
theorem i_Row_shrink_12 : ins m_Row_shrink 12 = some (.aload_n 0, 1, 0, 0, 13) := rfl
theorem i_Row_shrink_13 : ins m_Row_shrink 13 = some (.iload_n 1, 1, 0, 0, 14) := rfl
theorem i_Row_shrink_14 : ins m_Row_shrink 14 = some (.putfield 9, 3, 601, 0, 17) := rfl
theorem i_Row_shrink_17 : ins m_Row_shrink 17 = some (.return_, 1, 0, 0, 18) := rfl
theorem i_Row_fill_0 : ins m_Row_fill 0 = some (.iload_n 1, 1, 0, 0, 1) := rfl
theorem i_Row_fill_1 : ins m_Row_fill 1 = some (.ifCond .lt 27, 3, 28, 0, 4) := rfl
theorem i_Row_fill_4 : ins m_Row_fill 4 = some (.iload_n 1, 1, 0, 0, 5) := rfl
theorem i_Row_fill_5 : ins m_Row_fill 5 = some (.aload_n 0, 1, 0, 0, 6) := rfl
theorem i_Row_fill_6 : ins m_Row_fill 6 = some (.getfield 15, 3, 600, 0, 9) := rfl
theorem i_Row_fill_9 : ins m_Row_fill 9 = some (.arraylength, 1, 0, 0, 10) := rfl
theorem i_Row_fill_10 : ins m_Row_fill 10 = some (.if_icmp .gt 18, 3, 28, 0, 13) := rfl
theorem i_Row_fill_13 : ins m_Row_fill 13 = some (.aload_n 0, 1, 0, 0, 14) := rfl
theorem i_Row_fill_14 : ins m_Row_fill 14 = some (.iload_n 1, 1, 0, 0, 15) := rfl
theorem i_Row_fill_15 : ins m_Row_fill 15 = some (.putfield 9, 3, 601, 0, 18) := rfl
theorem i_Row_fill_18 : ins m_Row_fill 18 = some (.aload_n 0, 1, 0, 0, 19) := rfl
theorem i_Row_fill_19 : ins m_Row_fill 19 = some (.getfield 15, 3, 600, 0, 22) := rfl
theorem i_Row_fill_22 : ins m_Row_fill 22 = some (.iconst 0, 1, 0, 0, 23) := rfl
theorem i_Row_fill_23 : ins m_Row_fill 23 = some (.iload_n 1, 1, 0, 0, 24) := rfl
theorem i_Row_fill_24 : ins m_Row_fill 24 = some (.iload_n 2, 1, 0, 0, 25) := rfl
theorem i_Row_fill_25 : ins m_Row_fill 25 = some (.invokestatic 19, 3, 174, 4, 28) := rfl
theorem i_Row_fill_28 : ins m_Row_fill 28 = some (.return_, 1, 0, 0, 29) := rfl
theorem i_Run_init_0 : ins m_Run_init 0 = some (.aload_n 0, 1, 0, 0, 1) := rfl
theorem i_Run_init_1 : ins m_Run_init 1 = some (.invokespecial 3, 3, 9000, 0, 4) := rfl
theorem i_Run_init_4 : ins m_Run_init 4 = some (.aload_n 0, 1, 0, 0, 5) := rfl
theorem i_Run_init_5 : ins m_Run_init 5 = some (.new 9, 3, 6, 0, 8) := rfl
theorem i_Run_init_8 : ins m_Run_init 8 = some (.dup, 1, 0, 0, 9) := rfl
theorem i_Run_init_9 : ins m_Run_init 9 = some (.sipush 1928, 3, 0, 0, 12) := rfl
theorem i_Run_init_12 : ins m_Run_init 12 = some (.invokespecial 11, 3, 59, 1, 15) := rfl
theorem i_Run_init_15 : ins m_Run_init 15 = some (.putfield 14, 3, 700, 0, 18) := rfl
theorem i_Run_init_18 : ins m_Run_init 18 = some (.aload_n 0, 1, 0, 0, 19) := rfl
theorem i_Run_init_19 : ins m_Run_init 19 = some (.new 9, 3, 6, 0, 22) := rfl
theorem i_Run_init_22 : ins m_Run_init 22 = some (.dup, 1, 0, 0, 23) := rfl
theorem i_Run_init_23 : ins m_Run_init 23 = some (.sipush 1928, 3, 0, 0, 26) := rfl
theorem i_Run_init_26 : ins m_Run_init 26 = some (.invokespecial 11, 3, 59, 1, 29) := rfl
theorem i_Run_init_29 : ins m_Run_init 29 = some (.putfield 20, 3, 701, 0, 32) := rfl
theorem i_Run_init_32 : ins m_Run_init 32 = some (.aload_n 0, 1, 0, 0, 33) := rfl
theorem i_Run_init_33 : ins m_Run_init 33 = some (.new 9, 3, 6, 0, 36) := rfl
theorem i_Run_init_36 : ins m_Run_init 36 = some (.dup, 1, 0, 0, 37) := rfl
theorem i_Run_init_37 : ins m_Run_init 37 = some (.sipush 1928, 3, 0, 0, 40) := rfl
theorem i_Run_init_40 : ins m_Run_init 40 = some (.invokespecial 11, 3, 59, 1, 43) := rfl
theorem i_Run_init_43 : ins m_Run_init 43 = some (.putfield 23, 3, 702, 0, 46) := rfl
theorem i_Run_init_46 : ins m_Run_init 46 = some (.aload_n 0, 1, 0, 0, 47) := rfl
theorem i_Run_init_47 : ins m_Run_init 47 = some (.new 26, 3, 9, 0, 50) := rfl
theorem i_Run_init_50 : ins m_Run_init 50 = some (.dup, 1, 0, 0, 51) := rfl
theorem i_Run_init_51 : ins m_Run_init 51 = some (.invokespecial 28, 3, 83, 0, 54) := rfl
theorem i_Run_init_54 : ins m_Run_init 54 = some (.putfield 29, 3, 703, 0, 57) := rfl
theorem i_Run_init_57 : ins m_Run_init 57 = some (.aload_n 0, 1, 0, 0, 58) := rfl
theorem i_Run_init_58 : ins m_Run_init 58 = some (.new 33, 3, 1, 0, 61) := rfl
theorem i_Run_init_61 : ins m_Run_init 61 = some (.dup, 1, 0, 0, 62) := rfl
theorem i_Run_init_62 : ins m_Run_init 62 = some (.invokespecial 35, 3, 2, 0, 65) := rfl
theorem i_Run_init_65 : ins m_Run_init 65 = some (.putfield 36, 3, 704, 0, 68) := rfl
theorem i_Run_init_68 : ins m_Run_init 68 = some (.aload_n 0, 1, 0, 0, 69) := rfl
theorem i_Run_init_69 : ins m_Run_init 69 = some (.new 9, 3, 6, 0, 72) := rfl
theorem i_Run_init_72 : ins m_Run_init 72 = some (.dup, 1, 0, 0, 73) := rfl
theorem i_Run_init_73 : ins m_Run_init 73 = some (.iconst 0, 1, 0, 0, 74) := rfl
theorem i_Run_init_74 : ins m_Run_init 74 = some (.invokespecial 11, 3, 59, 1, 77) := rfl
theorem i_Run_init_77 : ins m_Run_init 77 = some (.putfield 40, 3, 705, 0, 80) := rfl
theorem i_Run_init_80 : ins m_Run_init 80 = some (.aload_n 0, 1, 0, 0, 81) := rfl
theorem i_Run_init_81 : ins m_Run_init 81 = some (.iconst (-1), 1, 0, 0, 82) := rfl
theorem i_Run_init_82 : ins m_Run_init 82 = some (.putfield 43, 3, 706, 0, 85) := rfl
theorem i_Run_init_85 : ins m_Run_init 85 = some (.aload_n 0, 1, 0, 0, 86) := rfl
theorem i_Run_init_86 : ins m_Run_init 86 = some (.iconst 0, 1, 0, 0, 87) := rfl
theorem i_Run_init_87 : ins m_Run_init 87 = some (.putfield 47, 3, 707, 0, 90) := rfl
theorem i_Run_init_90 : ins m_Run_init 90 = some (.aload_n 0, 1, 0, 0, 91) := rfl
theorem i_Run_init_91 : ins m_Run_init 91 = some (.iconst 0, 1, 0, 0, 92) := rfl
theorem i_Run_init_92 : ins m_Run_init 92 = some (.putfield 50, 3, 708, 0, 95) := rfl
theorem i_Run_init_95 : ins m_Run_init 95 = some (.aload_n 0, 1, 0, 0, 96) := rfl
theorem i_Run_init_96 : ins m_Run_init 96 = some (.iconst 0, 1, 0, 0, 97) := rfl
theorem i_Run_init_97 : ins m_Run_init 97 = some (.putfield 53, 3, 709, 0, 100) := rfl
theorem i_Run_init_100 : ins m_Run_init 100 = some (.aload_n 0, 1, 0, 0, 101) := rfl
theorem i_Run_init_101 : ins m_Run_init 101 = some (.iconst (-1), 1, 0, 0, 102) := rfl
theorem i_Run_init_102 : ins m_Run_init 102 = some (.putfield 56, 3, 710, 0, 105) := rfl
theorem i_Run_init_105 : ins m_Run_init 105 = some (.aload_n 0, 1, 0, 0, 106) := rfl
theorem i_Run_init_106 : ins m_Run_init 106 = some (.iconst 0, 1, 0, 0, 107) := rfl
theorem i_Run_init_107 : ins m_Run_init 107 = some (.putfield 59, 3, 711, 0, 110) := rfl
theorem i_Run_init_110 : ins m_Run_init 110 = some (.aload_n 0, 1, 0, 0, 111) := rfl
theorem i_Run_init_111 : ins m_Run_init 111 = some (.iconst 0, 1, 0, 0, 112) := rfl
theorem i_Run_init_112 : ins m_Run_init 112 = some (.putfield 62, 3, 712, 0, 115) := rfl
theorem i_Run_init_115 : ins m_Run_init 115 = some (.aload_n 0, 1, 0, 0, 116) := rfl
theorem i_Run_init_116 : ins m_Run_init 116 = some (.getfield 20, 3, 701, 0, 119) := rfl
theorem i_Run_init_119 : ins m_Run_init 119 = some (.sipush 1928, 3, 0, 0, 122) := rfl
theorem i_Run_init_122 : ins m_Run_init 122 = some (.iconst (-1), 1, 0, 0, 123) := rfl
theorem i_Run_init_123 : ins m_Run_init 123 = some (.invokevirtual 66, 3, 65, 2, 126) := rfl
theorem i_Run_init_126 : ins m_Run_init 126 = some (.aload_n 0, 1, 0, 0, 127) := rfl
theorem i_Run_init_127 : ins m_Run_init 127 = some (.getfield 23, 3, 702, 0, 130) := rfl
theorem i_Run_init_130 : ins m_Run_init 130 = some (.sipush 1928, 3, 0, 0, 133) := rfl
theorem i_Run_init_133 : ins m_Run_init 133 = some (.iconst 0, 1, 0, 0, 134) := rfl
theorem i_Run_init_134 : ins m_Run_init 134 = some (.invokevirtual 66, 3, 65, 2, 137) := rfl
theorem i_Run_init_137 : ins m_Run_init 137 = some (.return_, 1, 0, 0, 138) := rfl
theorem i_Run_through_0 : ins m_Run_through 0 = some (.aload_n 0, 1, 0, 0, 1) := rfl
theorem i_Run_through_1 : ins m_Run_through 1 = some (.aload_n 1, 1, 0, 0, 2) := rfl
theorem i_Run_through_2 : ins m_Run_through 2 = some (.putfield 36, 3, 704, 0, 5) := rfl
theorem i_Run_through_5 : ins m_Run_through 5 = some (.aload_n 0, 1, 0, 0, 6) := rfl
theorem i_Run_through_6 : ins m_Run_through 6 = some (.aload_n 2, 1, 0, 0, 7) := rfl
theorem i_Run_through_7 : ins m_Run_through 7 = some (.putfield 40, 3, 705, 0, 10) := rfl
theorem i_Run_through_10 : ins m_Run_through 10 = some (.aload_n 0, 1, 0, 0, 11) := rfl
theorem i_Run_through_11 : ins m_Run_through 11 = some (.iconst 0, 1, 0, 0, 12) := rfl
theorem i_Run_through_12 : ins m_Run_through 12 = some (.putfield 47, 3, 707, 0, 15) := rfl
theorem i_Run_through_15 : ins m_Run_through 15 = some (.aload_n 0, 1, 0, 0, 16) := rfl
theorem i_Run_through_16 : ins m_Run_through 16 = some (.iconst 0, 1, 0, 0, 17) := rfl
theorem i_Run_through_17 : ins m_Run_through 17 = some (.putfield 53, 3, 709, 0, 20) := rfl
theorem i_Run_through_20 : ins m_Run_through 20 = some (.aload_n 0, 1, 0, 0, 21) := rfl
theorem i_Run_through_21 : ins m_Run_through 21 = some (.iconst (-1), 1, 0, 0, 22) := rfl
theorem i_Run_through_22 : ins m_Run_through 22 = some (.putfield 56, 3, 710, 0, 25) := rfl
theorem i_Run_through_25 : ins m_Run_through 25 = some (.aload_n 0, 1, 0, 0, 26) := rfl
theorem i_Run_through_26 : ins m_Run_through 26 = some (.iconst 0, 1, 0, 0, 27) := rfl
theorem i_Run_through_27 : ins m_Run_through 27 = some (.putfield 59, 3, 711, 0, 30) := rfl
theorem i_Run_through_30 : ins m_Run_through 30 = some (.aload_n 0, 1, 0, 0, 31) := rfl
theorem i_Run_through_31 : ins m_Run_through 31 = some (.getfield 14, 3, 700, 0, 34) := rfl
theorem i_Run_through_34 : ins m_Run_through 34 = some (.sipush 1928, 3, 0, 0, 37) := rfl
theorem i_Run_through_37 : ins m_Run_through 37 = some (.bipush (-8), 2, 0, 0, 39) := rfl
theorem i_Run_through_39 : ins m_Run_through 39 = some (.invokevirtual 66, 3, 65, 2, 42) := rfl
theorem i_Run_through_42 : ins m_Run_through 42 = some (.aload_n 0, 1, 0, 0, 43) := rfl
theorem i_Run_through_43 : ins m_Run_through 43 = some (.getfield 29, 3, 703, 0, 46) := rfl
theorem i_Run_through_46 : ins m_Run_through 46 = some (.invokevirtual 70, 3, 84, 0, 49) := rfl
theorem i_Run_through_49 : ins m_Run_through 49 = some (.aload_n 0, 1, 0, 0, 50) := rfl
theorem i_Run_through_50 : ins m_Run_through 50 = some (.iload_n 3, 1, 0, 0, 51) := rfl
theorem i_Run_through_51 : ins m_Run_through 51 = some (.iload 4, 2, 0, 0, 53) := rfl
theorem i_Run_through_53 : ins m_Run_through 53 = some (.iconst 0, 1, 0, 0, 54) := rfl
theorem i_Run_through_54 : ins m_Run_through 54 = some (.invokevirtual 73, 3, 68, 3, 57) := rfl
theorem i_Run_through_57 : ins m_Run_through 57 = some (.istore 5, 2, 0, 0, 59) := rfl
theorem i_Run_through_59 : ins m_Run_through 59 = some (.iload 5, 2, 0, 0, 61) := rfl
theorem i_Run_through_61 : ins m_Run_through 61 = some (.ifCond .ge 8, 3, 69, 0, 64) := rfl
theorem i_Run_through_64 : ins m_Run_through 64 = some (.aload_n 0, 1, 0, 0, 65) := rfl
theorem i_Run_through_65 : ins m_Run_through 65 = some (.iconst (-1), 1, 0, 0, 66) := rfl
theorem i_Run_through_66 : ins m_Run_through 66 = some (.putfield 43, 3, 706, 0, 69) := rfl
theorem i_Run_through_69 : ins m_Run_through 69 = some (.iload 5, 2, 0, 0, 71) := rfl
theorem i_Run_through_71 : ins m_Run_through 71 = some (.bipush (-5), 2, 0, 0, 73) := rfl
theorem i_Run_through_73 : ins m_Run_through 73 = some (.if_icmp .ge 8, 3, 81, 0, 76) := rfl
theorem i_Run_through_76 : ins m_Run_through 76 = some (.aload_n 0, 1, 0, 0, 77) := rfl
theorem i_Run_through_77 : ins m_Run_through 77 = some (.iconst 0, 1, 0, 0, 78) := rfl
theorem i_Run_through_78 : ins m_Run_through 78 = some (.putfield 62, 3, 712, 0, 81) := rfl
theorem i_Run_through_81 : ins m_Run_through 81 = some (.iload 5, 2, 0, 0, 83) := rfl
theorem i_Run_through_83 : ins m_Run_through 83 = some (.ireturn, 1, 0, 0, 84) := rfl
theorem i_Run_ruled_0 : ins m_Run_ruled 0 = some (.iload_n 1, 1, 0, 0, 1) := rfl
theorem i_Run_ruled_1 : ins m_Run_ruled 1 = some (.sipush 241, 3, 0, 0, 4) := rfl
theorem i_Run_ruled_4 : ins m_Run_ruled 4 = some (.imul, 1, 0, 0, 5) := rfl
theorem i_Run_ruled_5 : ins m_Run_ruled 5 = some (.iload_n 2, 1, 0, 0, 6) := rfl
theorem i_Run_ruled_6 : ins m_Run_ruled 6 = some (.iadd, 1, 0, 0, 7) := rfl
theorem i_Run_ruled_7 : ins m_Run_ruled 7 = some (.istore 4, 2, 0, 0, 9) := rfl
theorem i_Run_ruled_9 : ins m_Run_ruled 9 = some (.aload_n 0, 1, 0, 0, 10) := rfl
theorem i_Run_ruled_10 : ins m_Run_ruled 10 = some (.getfield 14, 3, 700, 0, 13) := rfl
theorem i_Run_ruled_13 : ins m_Run_ruled 13 = some (.iload 4, 2, 0, 0, 15) := rfl
theorem i_Run_ruled_15 : ins m_Run_ruled 15 = some (.bipush (-9), 2, 0, 0, 17) := rfl
theorem i_Run_ruled_17 : ins m_Run_ruled 17 = some (.invokevirtual 77, 3, 62, 2, 20) := rfl
theorem i_Run_ruled_20 : ins m_Run_ruled 20 = some (.aload_n 0, 1, 0, 0, 21) := rfl
theorem i_Run_ruled_21 : ins m_Run_ruled 21 = some (.aload_n 0, 1, 0, 0, 22) := rfl
theorem i_Run_ruled_22 : ins m_Run_ruled 22 = some (.getfield 36, 3, 704, 0, 25) := rfl
theorem i_Run_ruled_25 : ins m_Run_ruled 25 = some (.iload_n 1, 1, 0, 0, 26) := rfl
theorem i_Run_ruled_26 : ins m_Run_ruled 26 = some (.invokevirtual 80, 3, 3, 1, 29) := rfl
theorem i_Run_ruled_29 : ins m_Run_ruled 29 = some (.iload_n 2, 1, 0, 0, 30) := rfl
theorem i_Run_ruled_30 : ins m_Run_ruled 30 = some (.iload_n 3, 1, 0, 0, 31) := rfl
theorem i_Run_ruled_31 : ins m_Run_ruled 31 = some (.invokevirtual 84, 3, 69, 3, 34) := rfl
theorem i_Run_ruled_34 : ins m_Run_ruled 34 = some (.istore 5, 2, 0, 0, 36) := rfl
theorem i_Run_ruled_36 : ins m_Run_ruled 36 = some (.iload 5, 2, 0, 0, 38) := rfl
theorem i_Run_ruled_38 : ins m_Run_ruled 38 = some (.bipush (-5), 2, 0, 0, 40) := rfl
theorem i_Run_ruled_40 : ins m_Run_ruled 40 = some (.if_icmp .lt 48, 3, 88, 0, 43) := rfl
theorem i_Run_ruled_43 : ins m_Run_ruled 43 = some (.aload_n 0, 1, 0, 0, 44) := rfl
theorem i_Run_ruled_44 : ins m_Run_ruled 44 = some (.getfield 14, 3, 700, 0, 47) := rfl
theorem i_Run_ruled_47 : ins m_Run_ruled 47 = some (.iload 4, 2, 0, 0, 49) := rfl
theorem i_Run_ruled_49 : ins m_Run_ruled 49 = some (.iload 5, 2, 0, 0, 51) := rfl
theorem i_Run_ruled_51 : ins m_Run_ruled 51 = some (.invokevirtual 77, 3, 62, 2, 54) := rfl
theorem i_Run_ruled_54 : ins m_Run_ruled 54 = some (.aload_n 0, 1, 0, 0, 55) := rfl
theorem i_Run_ruled_55 : ins m_Run_ruled 55 = some (.getfield 20, 3, 701, 0, 58) := rfl
theorem i_Run_ruled_58 : ins m_Run_ruled 58 = some (.iload 4, 2, 0, 0, 60) := rfl
theorem i_Run_ruled_60 : ins m_Run_ruled 60 = some (.aload_n 0, 1, 0, 0, 61) := rfl
theorem i_Run_ruled_61 : ins m_Run_ruled 61 = some (.getfield 43, 3, 706, 0, 64) := rfl
theorem i_Run_ruled_64 : ins m_Run_ruled 64 = some (.invokevirtual 77, 3, 62, 2, 67) := rfl
theorem i_Run_ruled_67 : ins m_Run_ruled 67 = some (.aload_n 0, 1, 0, 0, 68) := rfl
theorem i_Run_ruled_68 : ins m_Run_ruled 68 = some (.getfield 23, 3, 702, 0, 71) := rfl
theorem i_Run_ruled_71 : ins m_Run_ruled 71 = some (.iload 4, 2, 0, 0, 73) := rfl
theorem i_Run_ruled_73 : ins m_Run_ruled 73 = some (.aload_n 0, 1, 0, 0, 74) := rfl
theorem i_Run_ruled_74 : ins m_Run_ruled 74 = some (.getfield 62, 3, 712, 0, 77) := rfl
theorem i_Run_ruled_77 : ins m_Run_ruled 77 = some (.ifCond .eq 7, 3, 84, 0, 80) := rfl
theorem i_Run_ruled_80 : ins m_Run_ruled 80 = some (.iconst 1, 1, 0, 0, 81) := rfl
theorem i_Run_ruled_81 : ins m_Run_ruled 81 = some (.goto 4, 3, 85, 0, 84) := rfl
theorem i_Run_ruled_84 : ins m_Run_ruled 84 = some (.iconst 0, 1, 0, 0, 85) := rfl
theorem i_Run_ruled_85 : ins m_Run_ruled 85 = some (.invokevirtual 77, 3, 62, 2, 88) := rfl
theorem i_Run_ruled_88 : ins m_Run_ruled 88 = some (.iload 5, 2, 0, 0, 90) := rfl
theorem i_Run_ruled_90 : ins m_Run_ruled 90 = some (.ireturn, 1, 0, 0, 91) := rfl
theorem i_Run_alternatives_0 : ins m_Run_alternatives 0 = some (.aload_n 1, 1, 0, 0, 1) := rfl
theorem i_Run_alternatives_1 : ins m_Run_alternatives 1 = some (.astore 4, 2, 0, 0, 3) := rfl
theorem i_Run_alternatives_3 : ins m_Run_alternatives 3 = some (.aload 4, 2, 0, 0, 5) := rfl
theorem i_Run_alternatives_5 : ins m_Run_alternatives 5 = some (.ifnull 40, 3, 45, 0, 8) := rfl
theorem i_Run_alternatives_8 : ins m_Run_alternatives 8 = some (.aload_n 0, 1, 0, 0, 9) := rfl
theorem i_Run_alternatives_9 : ins m_Run_alternatives 9 = some (.aload 4, 2, 0, 0, 11) := rfl
theorem i_Run_alternatives_11 : ins m_Run_alternatives 11 = some (.iload_n 2, 1, 0, 0, 12) := rfl
theorem i_Run_alternatives_12 : ins m_Run_alternatives 12 = some (.iload_n 3, 1, 0, 0, 13) := rfl
theorem i_Run_alternatives_13 : ins m_Run_alternatives 13 = some (.invokevirtual 88, 3, 70, 3, 16) := rfl
theorem i_Run_alternatives_16 : ins m_Run_alternatives 16 = some (.istore 5, 2, 0, 0, 18) := rfl
theorem i_Run_alternatives_18 : ins m_Run_alternatives 18 = some (.iload 5, 2, 0, 0, 20) := rfl
theorem i_Run_alternatives_20 : ins m_Run_alternatives 20 = some (.bipush (-5), 2, 0, 0, 22) := rfl
theorem i_Run_alternatives_22 : ins m_Run_alternatives 22 = some (.if_icmp .ne 10, 3, 32, 0, 25) := rfl
theorem i_Run_alternatives_25 : ins m_Run_alternatives 25 = some (.aload_n 0, 1, 0, 0, 26) := rfl
theorem i_Run_alternatives_26 : ins m_Run_alternatives 26 = some (.getfield 62, 3, 712, 0, 29) := rfl
theorem i_Run_alternatives_29 : ins m_Run_alternatives 29 = some (.ifCond .eq 6, 3, 35, 0, 32) := rfl
theorem i_Run_alternatives_32 : ins m_Run_alternatives 32 = some (.iload 5, 2, 0, 0, 34) := rfl
theorem i_Run_alternatives_34 : ins m_Run_alternatives 34 = some (.ireturn, 1, 0, 0, 35) := rfl
theorem i_Run_alternatives_35 : ins m_Run_alternatives 35 = some (.aload 4, 2, 0, 0, 37) := rfl
theorem i_Run_alternatives_37 : ins m_Run_alternatives 37 = some (.getfield 91, 3, 801, 0, 40) := rfl
theorem i_Run_alternatives_40 : ins m_Run_alternatives 40 = some (.astore 4, 2, 0, 0, 42) := rfl
theorem i_Run_alternatives_42 : ins m_Run_alternatives 42 = some (.goto (-39), 3, 3, 0, 45) := rfl
theorem i_Run_alternatives_45 : ins m_Run_alternatives 45 = some (.aload_n 0, 1, 0, 0, 46) := rfl
theorem i_Run_alternatives_46 : ins m_Run_alternatives 46 = some (.iconst (-1), 1, 0, 0, 47) := rfl
theorem i_Run_alternatives_47 : ins m_Run_alternatives 47 = some (.putfield 43, 3, 706, 0, 50) := rfl
theorem i_Run_alternatives_50 : ins m_Run_alternatives 50 = some (.aload_n 0, 1, 0, 0, 51) := rfl
theorem i_Run_alternatives_51 : ins m_Run_alternatives 51 = some (.iconst 0, 1, 0, 0, 52) := rfl
theorem i_Run_alternatives_52 : ins m_Run_alternatives 52 = some (.putfield 62, 3, 712, 0, 55) := rfl
theorem i_Run_alternatives_55 : ins m_Run_alternatives 55 = some (.bipush (-5), 2, 0, 0, 57) := rfl
theorem i_Run_alternatives_57 : ins m_Run_alternatives 57 = some (.ireturn, 1, 0, 0, 58) := rfl
theorem i_Run_sequence_0 : ins m_Run_sequence 0 = some (.aload_n 0, 1, 0, 0, 1) := rfl
theorem i_Run_sequence_1 : ins m_Run_sequence 1 = some (.getfield 29, 3, 703, 0, 4) := rfl
theorem i_Run_sequence_4 : ins m_Run_sequence 4 = some (.invokevirtual 97, 3, 92, 0, 7) := rfl
theorem i_Run_sequence_7 : ins m_Run_sequence 7 = some (.istore 4, 2, 0, 0, 9) := rfl
theorem i_Run_sequence_9 : ins m_Run_sequence 9 = some (.iload_n 2, 1, 0, 0, 10) := rfl
theorem i_Run_sequence_10 : ins m_Run_sequence 10 = some (.istore 5, 2, 0, 0, 12) := rfl
theorem i_Run_sequence_12 : ins m_Run_sequence 12 = some (.iconst (-1), 1, 0, 0, 13) := rfl
theorem i_Run_sequence_13 : ins m_Run_sequence 13 = some (.istore 6, 2, 0, 0, 15) := rfl
theorem i_Run_sequence_15 : ins m_Run_sequence 15 = some (.iconst 0, 1, 0, 0, 16) := rfl
theorem i_Run_sequence_16 : ins m_Run_sequence 16 = some (.istore 7, 2, 0, 0, 18) := rfl
theorem i_Run_sequence_18 : ins m_Run_sequence 18 = some (.aload_n 1, 1, 0, 0, 19) := rfl
theorem i_Run_sequence_19 : ins m_Run_sequence 19 = some (.getfield 101, 3, 800, 0, 22) := rfl
theorem i_Run_sequence_22 : ins m_Run_sequence 22 = some (.astore 8, 2, 0, 0, 24) := rfl
theorem i_Run_sequence_24 : ins m_Run_sequence 24 = some (.aload 8, 2, 0, 0, 26) := rfl
theorem i_Run_sequence_26 : ins m_Run_sequence 26 = some (.ifnull 113, 3, 139, 0, 29) := rfl
theorem i_Run_sequence_29 : ins m_Run_sequence 29 = some (.aload_n 0, 1, 0, 0, 30) := rfl
theorem i_Run_sequence_30 : ins m_Run_sequence 30 = some (.aload 8, 2, 0, 0, 32) := rfl
theorem i_Run_sequence_32 : ins m_Run_sequence 32 = some (.iload 5, 2, 0, 0, 34) := rfl
theorem i_Run_sequence_34 : ins m_Run_sequence 34 = some (.iload_n 3, 1, 0, 0, 35) := rfl
theorem i_Run_sequence_35 : ins m_Run_sequence 35 = some (.invokevirtual 105, 3, 71, 3, 38) := rfl
theorem i_Run_sequence_38 : ins m_Run_sequence 38 = some (.istore 5, 2, 0, 0, 40) := rfl
theorem i_Run_sequence_40 : ins m_Run_sequence 40 = some (.iload 7, 2, 0, 0, 42) := rfl
theorem i_Run_sequence_42 : ins m_Run_sequence 42 = some (.ifCond .ne 10, 3, 52, 0, 45) := rfl
theorem i_Run_sequence_45 : ins m_Run_sequence 45 = some (.aload_n 0, 1, 0, 0, 46) := rfl
theorem i_Run_sequence_46 : ins m_Run_sequence 46 = some (.getfield 62, 3, 712, 0, 49) := rfl
theorem i_Run_sequence_49 : ins m_Run_sequence 49 = some (.ifCond .eq 7, 3, 56, 0, 52) := rfl
theorem i_Run_sequence_52 : ins m_Run_sequence 52 = some (.iconst 1, 1, 0, 0, 53) := rfl
theorem i_Run_sequence_53 : ins m_Run_sequence 53 = some (.goto 4, 3, 57, 0, 56) := rfl
theorem i_Run_sequence_56 : ins m_Run_sequence 56 = some (.iconst 0, 1, 0, 0, 57) := rfl
theorem i_Run_sequence_57 : ins m_Run_sequence 57 = some (.istore 7, 2, 0, 0, 59) := rfl
theorem i_Run_sequence_59 : ins m_Run_sequence 59 = some (.iload 5, 2, 0, 0, 61) := rfl
theorem i_Run_sequence_61 : ins m_Run_sequence 61 = some (.ifCond .ge 21, 3, 82, 0, 64) := rfl
theorem i_Run_sequence_64 : ins m_Run_sequence 64 = some (.aload_n 0, 1, 0, 0, 65) := rfl
theorem i_Run_sequence_65 : ins m_Run_sequence 65 = some (.getfield 29, 3, 703, 0, 68) := rfl
theorem i_Run_sequence_68 : ins m_Run_sequence 68 = some (.iload 4, 2, 0, 0, 70) := rfl
theorem i_Run_sequence_70 : ins m_Run_sequence 70 = some (.invokevirtual 109, 3, 94, 1, 73) := rfl
theorem i_Run_sequence_73 : ins m_Run_sequence 73 = some (.aload_n 0, 1, 0, 0, 74) := rfl
theorem i_Run_sequence_74 : ins m_Run_sequence 74 = some (.iload 7, 2, 0, 0, 76) := rfl
theorem i_Run_sequence_76 : ins m_Run_sequence 76 = some (.putfield 62, 3, 712, 0, 79) := rfl
theorem i_Run_sequence_79 : ins m_Run_sequence 79 = some (.iload 5, 2, 0, 0, 81) := rfl
theorem i_Run_sequence_81 : ins m_Run_sequence 81 = some (.ireturn, 1, 0, 0, 82) := rfl
theorem i_Run_sequence_82 : ins m_Run_sequence 82 = some (.aload 8, 2, 0, 0, 84) := rfl
theorem i_Run_sequence_84 : ins m_Run_sequence 84 = some (.invokevirtual 112, 3, 31, 0, 87) := rfl
theorem i_Run_sequence_87 : ins m_Run_sequence 87 = some (.ifCond .eq 23, 3, 110, 0, 90) := rfl
theorem i_Run_sequence_90 : ins m_Run_sequence 90 = some (.iload 6, 2, 0, 0, 92) := rfl
theorem i_Run_sequence_92 : ins m_Run_sequence 92 = some (.iconst (-1), 1, 0, 0, 93) := rfl
theorem i_Run_sequence_93 : ins m_Run_sequence 93 = some (.if_icmp .ne 10, 3, 103, 0, 96) := rfl
theorem i_Run_sequence_96 : ins m_Run_sequence 96 = some (.aload_n 0, 1, 0, 0, 97) := rfl
theorem i_Run_sequence_97 : ins m_Run_sequence 97 = some (.getfield 43, 3, 706, 0, 100) := rfl
theorem i_Run_sequence_100 : ins m_Run_sequence 100 = some (.goto 5, 3, 105, 0, 103) := rfl
theorem i_Run_sequence_103 : ins m_Run_sequence 103 = some (.iload 6, 2, 0, 0, 105) := rfl
theorem i_Run_sequence_105 : ins m_Run_sequence 105 = some (.istore 6, 2, 0, 0, 107) := rfl
theorem i_Run_sequence_107 : ins m_Run_sequence 107 = some (.goto 22, 3, 129, 0, 110) := rfl
theorem i_Run_sequence_110 : ins m_Run_sequence 110 = some (.aload_n 0, 1, 0, 0, 111) := rfl
theorem i_Run_sequence_111 : ins m_Run_sequence 111 = some (.getfield 43, 3, 706, 0, 114) := rfl
theorem i_Run_sequence_114 : ins m_Run_sequence 114 = some (.iconst (-1), 1, 0, 0, 115) := rfl
theorem i_Run_sequence_115 : ins m_Run_sequence 115 = some (.if_icmp .eq 14, 3, 129, 0, 118) := rfl
theorem i_Run_sequence_118 : ins m_Run_sequence 118 = some (.aload_n 0, 1, 0, 0, 119) := rfl
theorem i_Run_sequence_119 : ins m_Run_sequence 119 = some (.getfield 29, 3, 703, 0, 122) := rfl
theorem i_Run_sequence_122 : ins m_Run_sequence 122 = some (.aload_n 0, 1, 0, 0, 123) := rfl
theorem i_Run_sequence_123 : ins m_Run_sequence 123 = some (.getfield 43, 3, 706, 0, 126) := rfl
theorem i_Run_sequence_126 : ins m_Run_sequence 126 = some (.invokevirtual 118, 3, 93, 1, 129) := rfl
theorem i_Run_sequence_129 : ins m_Run_sequence 129 = some (.aload 8, 2, 0, 0, 131) := rfl
theorem i_Run_sequence_131 : ins m_Run_sequence 131 = some (.getfield 121, 3, 406, 0, 134) := rfl
theorem i_Run_sequence_134 : ins m_Run_sequence 134 = some (.astore 8, 2, 0, 0, 136) := rfl
theorem i_Run_sequence_136 : ins m_Run_sequence 136 = some (.goto (-112), 3, 24, 0, 139) := rfl
theorem i_Run_sequence_139 : ins m_Run_sequence 139 = some (.aload_n 0, 1, 0, 0, 140) := rfl
theorem i_Run_sequence_140 : ins m_Run_sequence 140 = some (.iload 7, 2, 0, 0, 142) := rfl
theorem i_Run_sequence_142 : ins m_Run_sequence 142 = some (.putfield 62, 3, 712, 0, 145) := rfl
theorem i_Run_sequence_145 : ins m_Run_sequence 145 = some (.aload_n 0, 1, 0, 0, 146) := rfl
theorem i_Run_sequence_146 : ins m_Run_sequence 146 = some (.aload_n 0, 1, 0, 0, 147) := rfl
theorem i_Run_sequence_147 : ins m_Run_sequence 147 = some (.getfield 29, 3, 703, 0, 150) := rfl
theorem i_Run_sequence_150 : ins m_Run_sequence 150 = some (.iload 4, 2, 0, 0, 152) := rfl
theorem i_Run_sequence_152 : ins m_Run_sequence 152 = some (.iload 6, 2, 0, 0, 154) := rfl
theorem i_Run_sequence_154 : ins m_Run_sequence 154 = some (.invokevirtual 123, 3, 96, 2, 157) := rfl
theorem i_Run_sequence_157 : ins m_Run_sequence 157 = some (.putfield 43, 3, 706, 0, 160) := rfl
theorem i_Run_sequence_160 : ins m_Run_sequence 160 = some (.aload_n 0, 1, 0, 0, 161) := rfl
theorem i_Run_sequence_161 : ins m_Run_sequence 161 = some (.getfield 43, 3, 706, 0, 164) := rfl
theorem i_Run_sequence_164 : ins m_Run_sequence 164 = some (.bipush (-2), 2, 0, 0, 166) := rfl
theorem i_Run_sequence_166 : ins m_Run_sequence 166 = some (.if_icmp .ne 8, 3, 174, 0, 169) := rfl
theorem i_Run_sequence_169 : ins m_Run_sequence 169 = some (.bipush (-19), 2, 0, 0, 171) := rfl
theorem i_Run_sequence_171 : ins m_Run_sequence 171 = some (.goto 5, 3, 176, 0, 174) := rfl
theorem i_Run_sequence_174 : ins m_Run_sequence 174 = some (.iload 5, 2, 0, 0, 176) := rfl
theorem i_Run_sequence_176 : ins m_Run_sequence 176 = some (.ireturn, 1, 0, 0, 177) := rfl
theorem i_Run_item_0 : ins m_Run_item 0 = some (.aload_n 0, 1, 0, 0, 1) := rfl
theorem i_Run_item_1 : ins m_Run_item 1 = some (.getfield 29, 3, 703, 0, 4) := rfl
theorem i_Run_item_4 : ins m_Run_item 4 = some (.invokevirtual 97, 3, 92, 0, 7) := rfl
theorem i_Run_item_7 : ins m_Run_item 7 = some (.istore 4, 2, 0, 0, 9) := rfl
theorem i_Run_item_9 : ins m_Run_item 9 = some (.iload_n 2, 1, 0, 0, 10) := rfl
theorem i_Run_item_10 : ins m_Run_item 10 = some (.istore 5, 2, 0, 0, 12) := rfl
theorem i_Run_item_12 : ins m_Run_item 12 = some (.iconst 0, 1, 0, 0, 13) := rfl
theorem i_Run_item_13 : ins m_Run_item 13 = some (.istore 6, 2, 0, 0, 15) := rfl
theorem i_Run_item_15 : ins m_Run_item 15 = some (.iconst 0, 1, 0, 0, 16) := rfl
theorem i_Run_item_16 : ins m_Run_item 16 = some (.istore 7, 2, 0, 0, 18) := rfl
theorem i_Run_item_18 : ins m_Run_item 18 = some (.iload 7, 2, 0, 0, 20) := rfl
theorem i_Run_item_20 : ins m_Run_item 20 = some (.sipush 1000, 3, 0, 0, 23) := rfl
theorem i_Run_item_23 : ins m_Run_item 23 = some (.if_icmp .gt 244, 3, 267, 0, 26) := rfl
theorem i_Run_item_26 : ins m_Run_item 26 = some (.aload_n 0, 1, 0, 0, 27) := rfl
theorem i_Run_item_27 : ins m_Run_item 27 = some (.aload_n 1, 1, 0, 0, 28) := rfl
theorem i_Run_item_28 : ins m_Run_item 28 = some (.iload 5, 2, 0, 0, 30) := rfl
theorem i_Run_item_30 : ins m_Run_item 30 = some (.iload_n 3, 1, 0, 0, 31) := rfl
theorem i_Run_item_31 : ins m_Run_item 31 = some (.invokevirtual 127, 3, 73, 3, 34) := rfl
theorem i_Run_item_34 : ins m_Run_item 34 = some (.istore 8, 2, 0, 0, 36) := rfl
theorem i_Run_item_36 : ins m_Run_item 36 = some (.iload 8, 2, 0, 0, 38) := rfl
theorem i_Run_item_38 : ins m_Run_item 38 = some (.bipush (-7), 2, 0, 0, 40) := rfl
theorem i_Run_item_40 : ins m_Run_item 40 = some (.if_icmp .ne 62, 3, 102, 0, 43) := rfl
theorem i_Run_item_43 : ins m_Run_item 43 = some (.aload_n 1, 1, 0, 0, 44) := rfl
theorem i_Run_item_44 : ins m_Run_item 44 = some (.getfield 130, 3, 400, 0, 47) := rfl
theorem i_Run_item_47 : ins m_Run_item 47 = some (.bipush 12, 2, 0, 0, 49) := rfl
theorem i_Run_item_49 : ins m_Run_item 49 = some (.if_icmp .ne 19, 3, 68, 0, 52) := rfl
theorem i_Run_item_52 : ins m_Run_item 52 = some (.aload_n 0, 1, 0, 0, 53) := rfl
theorem i_Run_item_53 : ins m_Run_item 53 = some (.aload_n 1, 1, 0, 0, 54) := rfl
theorem i_Run_item_54 : ins m_Run_item 54 = some (.getfield 133, 3, 403, 0, 57) := rfl
theorem i_Run_item_57 : ins m_Run_item 57 = some (.iload 5, 2, 0, 0, 59) := rfl
theorem i_Run_item_59 : ins m_Run_item 59 = some (.iload_n 3, 1, 0, 0, 60) := rfl
theorem i_Run_item_60 : ins m_Run_item 60 = some (.iconst 1, 1, 0, 0, 61) := rfl
theorem i_Run_item_61 : ins m_Run_item 61 = some (.iadd, 1, 0, 0, 62) := rfl
theorem i_Run_item_62 : ins m_Run_item 62 = some (.invokevirtual 73, 3, 68, 3, 65) := rfl
theorem i_Run_item_65 : ins m_Run_item 65 = some (.goto 35, 3, 100, 0, 68) := rfl
theorem i_Run_item_68 : ins m_Run_item 68 = some (.aload_n 1, 1, 0, 0, 69) := rfl
theorem i_Run_item_69 : ins m_Run_item 69 = some (.getfield 130, 3, 400, 0, 72) := rfl
theorem i_Run_item_72 : ins m_Run_item 72 = some (.bipush 10, 2, 0, 0, 74) := rfl
theorem i_Run_item_74 : ins m_Run_item 74 = some (.if_icmp .ne 16, 3, 90, 0, 77) := rfl
theorem i_Run_item_77 : ins m_Run_item 77 = some (.aload_n 0, 1, 0, 0, 78) := rfl
theorem i_Run_item_78 : ins m_Run_item 78 = some (.aload_n 1, 1, 0, 0, 79) := rfl
theorem i_Run_item_79 : ins m_Run_item 79 = some (.iload 5, 2, 0, 0, 81) := rfl
theorem i_Run_item_81 : ins m_Run_item 81 = some (.iload_n 3, 1, 0, 0, 82) := rfl
theorem i_Run_item_82 : ins m_Run_item 82 = some (.iconst 1, 1, 0, 0, 83) := rfl
theorem i_Run_item_83 : ins m_Run_item 83 = some (.iadd, 1, 0, 0, 84) := rfl
theorem i_Run_item_84 : ins m_Run_item 84 = some (.invokevirtual 136, 3, 79, 3, 87) := rfl
theorem i_Run_item_87 : ins m_Run_item 87 = some (.goto 13, 3, 100, 0, 90) := rfl
theorem i_Run_item_90 : ins m_Run_item 90 = some (.aload_n 0, 1, 0, 0, 91) := rfl
theorem i_Run_item_91 : ins m_Run_item 91 = some (.aload_n 1, 1, 0, 0, 92) := rfl
theorem i_Run_item_92 : ins m_Run_item 92 = some (.iload 5, 2, 0, 0, 94) := rfl
theorem i_Run_item_94 : ins m_Run_item 94 = some (.iload_n 3, 1, 0, 0, 95) := rfl
theorem i_Run_item_95 : ins m_Run_item 95 = some (.iconst 1, 1, 0, 0, 96) := rfl
theorem i_Run_item_96 : ins m_Run_item 96 = some (.iadd, 1, 0, 0, 97) := rfl
theorem i_Run_item_97 : ins m_Run_item 97 = some (.invokevirtual 139, 3, 77, 3, 100) := rfl
theorem i_Run_item_100 : ins m_Run_item 100 = some (.istore 8, 2, 0, 0, 102) := rfl
theorem i_Run_item_102 : ins m_Run_item 102 = some (.aload_n 1, 1, 0, 0, 103) := rfl
theorem i_Run_item_103 : ins m_Run_item 103 = some (.getfield 142, 3, 401, 0, 106) := rfl
theorem i_Run_item_106 : ins m_Run_item 106 = some (.ifCond .eq 24, 3, 130, 0, 109) := rfl
theorem i_Run_item_109 : ins m_Run_item 109 = some (.iload 8, 2, 0, 0, 111) := rfl
theorem i_Run_item_111 : ins m_Run_item 111 = some (.bipush (-5), 2, 0, 0, 113) := rfl
theorem i_Run_item_113 : ins m_Run_item 113 = some (.if_icmp .lt 17, 3, 130, 0, 116) := rfl
theorem i_Run_item_116 : ins m_Run_item 116 = some (.iload 8, 2, 0, 0, 118) := rfl
theorem i_Run_item_118 : ins m_Run_item 118 = some (.bipush (-5), 2, 0, 0, 120) := rfl
theorem i_Run_item_120 : ins m_Run_item 120 = some (.if_icmp .ne 13, 3, 133, 0, 123) := rfl
theorem i_Run_item_123 : ins m_Run_item 123 = some (.aload_n 0, 1, 0, 0, 124) := rfl
theorem i_Run_item_124 : ins m_Run_item 124 = some (.getfield 62, 3, 712, 0, 127) := rfl
theorem i_Run_item_127 : ins m_Run_item 127 = some (.ifCond .eq 6, 3, 133, 0, 130) := rfl
theorem i_Run_item_130 : ins m_Run_item 130 = some (.iload 8, 2, 0, 0, 132) := rfl
theorem i_Run_item_132 : ins m_Run_item 132 = some (.ireturn, 1, 0, 0, 133) := rfl
theorem i_Run_item_133 : ins m_Run_item 133 = some (.aload_n 1, 1, 0, 0, 134) := rfl
theorem i_Run_item_134 : ins m_Run_item 134 = some (.getfield 142, 3, 401, 0, 137) := rfl
theorem i_Run_item_137 : ins m_Run_item 137 = some (.bipush 63, 2, 0, 0, 139) := rfl
theorem i_Run_item_139 : ins m_Run_item 139 = some (.if_icmp .ne 26, 3, 165, 0, 142) := rfl
theorem i_Run_item_142 : ins m_Run_item 142 = some (.iload 8, 2, 0, 0, 144) := rfl
theorem i_Run_item_144 : ins m_Run_item 144 = some (.bipush (-5), 2, 0, 0, 146) := rfl
theorem i_Run_item_146 : ins m_Run_item 146 = some (.if_icmp .ne 16, 3, 162, 0, 149) := rfl
theorem i_Run_item_149 : ins m_Run_item 149 = some (.aload_n 0, 1, 0, 0, 150) := rfl
theorem i_Run_item_150 : ins m_Run_item 150 = some (.sipush 256, 3, 0, 0, 153) := rfl
theorem i_Run_item_153 : ins m_Run_item 153 = some (.iconst 0, 1, 0, 0, 154) := rfl
theorem i_Run_item_154 : ins m_Run_item 154 = some (.iload 5, 2, 0, 0, 156) := rfl
theorem i_Run_item_156 : ins m_Run_item 156 = some (.invokevirtual 145, 3, 72, 3, 159) := rfl
theorem i_Run_item_159 : ins m_Run_item 159 = some (.goto 5, 3, 164, 0, 162) := rfl
theorem i_Run_item_162 : ins m_Run_item 162 = some (.iload 8, 2, 0, 0, 164) := rfl
theorem i_Run_item_164 : ins m_Run_item 164 = some (.ireturn, 1, 0, 0, 165) := rfl
theorem i_Run_item_165 : ins m_Run_item 165 = some (.iload 8, 2, 0, 0, 167) := rfl
theorem i_Run_item_167 : ins m_Run_item 167 = some (.bipush (-5), 2, 0, 0, 169) := rfl
theorem i_Run_item_169 : ins m_Run_item 169 = some (.if_icmp .ne 40, 3, 209, 0, 172) := rfl
theorem i_Run_item_172 : ins m_Run_item 172 = some (.aload_n 1, 1, 0, 0, 173) := rfl
theorem i_Run_item_173 : ins m_Run_item 173 = some (.getfield 142, 3, 401, 0, 176) := rfl
theorem i_Run_item_176 : ins m_Run_item 176 = some (.bipush 43, 2, 0, 0, 178) := rfl
theorem i_Run_item_178 : ins m_Run_item 178 = some (.if_icmp .ne 13, 3, 191, 0, 181) := rfl
theorem i_Run_item_181 : ins m_Run_item 181 = some (.iload 7, 2, 0, 0, 183) := rfl
theorem i_Run_item_183 : ins m_Run_item 183 = some (.ifCond .ne 8, 3, 191, 0, 186) := rfl
theorem i_Run_item_186 : ins m_Run_item 186 = some (.bipush (-5), 2, 0, 0, 188) := rfl
theorem i_Run_item_188 : ins m_Run_item 188 = some (.goto 20, 3, 208, 0, 191) := rfl
theorem i_Run_item_191 : ins m_Run_item 191 = some (.aload_n 0, 1, 0, 0, 192) := rfl
theorem i_Run_item_192 : ins m_Run_item 192 = some (.aload_n 0, 1, 0, 0, 193) := rfl
theorem i_Run_item_193 : ins m_Run_item 193 = some (.getfield 29, 3, 703, 0, 196) := rfl
theorem i_Run_item_196 : ins m_Run_item 196 = some (.iload 4, 2, 0, 0, 198) := rfl
theorem i_Run_item_198 : ins m_Run_item 198 = some (.invokevirtual 149, 3, 95, 1, 201) := rfl
theorem i_Run_item_201 : ins m_Run_item 201 = some (.iload 6, 2, 0, 0, 203) := rfl
theorem i_Run_item_203 : ins m_Run_item 203 = some (.iload 5, 2, 0, 0, 205) := rfl
theorem i_Run_item_205 : ins m_Run_item 205 = some (.invokevirtual 145, 3, 72, 3, 208) := rfl
theorem i_Run_item_208 : ins m_Run_item 208 = some (.ireturn, 1, 0, 0, 209) := rfl
theorem i_Run_item_209 : ins m_Run_item 209 = some (.iload 8, 2, 0, 0, 211) := rfl
theorem i_Run_item_211 : ins m_Run_item 211 = some (.iload 5, 2, 0, 0, 213) := rfl
theorem i_Run_item_213 : ins m_Run_item 213 = some (.if_icmp .ne 6, 3, 219, 0, 216) := rfl
theorem i_Run_item_216 : ins m_Run_item 216 = some (.bipush (-15), 2, 0, 0, 218) := rfl
theorem i_Run_item_218 : ins m_Run_item 218 = some (.ireturn, 1, 0, 0, 219) := rfl
theorem i_Run_item_219 : ins m_Run_item 219 = some (.iload 8, 2, 0, 0, 221) := rfl
theorem i_Run_item_221 : ins m_Run_item 221 = some (.istore 5, 2, 0, 0, 223) := rfl
theorem i_Run_item_223 : ins m_Run_item 223 = some (.iload 6, 2, 0, 0, 225) := rfl
theorem i_Run_item_225 : ins m_Run_item 225 = some (.ifCond .ne 10, 3, 235, 0, 228) := rfl
theorem i_Run_item_228 : ins m_Run_item 228 = some (.aload_n 0, 1, 0, 0, 229) := rfl
theorem i_Run_item_229 : ins m_Run_item 229 = some (.getfield 62, 3, 712, 0, 232) := rfl
theorem i_Run_item_232 : ins m_Run_item 232 = some (.ifCond .eq 7, 3, 239, 0, 235) := rfl
theorem i_Run_item_235 : ins m_Run_item 235 = some (.iconst 1, 1, 0, 0, 236) := rfl
theorem i_Run_item_236 : ins m_Run_item 236 = some (.goto 4, 3, 240, 0, 239) := rfl
theorem i_Run_item_239 : ins m_Run_item 239 = some (.iconst 0, 1, 0, 0, 240) := rfl
theorem i_Run_item_240 : ins m_Run_item 240 = some (.istore 6, 2, 0, 0, 242) := rfl
theorem i_Run_item_242 : ins m_Run_item 242 = some (.aload_n 0, 1, 0, 0, 243) := rfl
theorem i_Run_item_243 : ins m_Run_item 243 = some (.getfield 43, 3, 706, 0, 246) := rfl
theorem i_Run_item_246 : ins m_Run_item 246 = some (.iconst (-1), 1, 0, 0, 247) := rfl
theorem i_Run_item_247 : ins m_Run_item 247 = some (.if_icmp .eq 14, 3, 261, 0, 250) := rfl
theorem i_Run_item_250 : ins m_Run_item 250 = some (.aload_n 0, 1, 0, 0, 251) := rfl
theorem i_Run_item_251 : ins m_Run_item 251 = some (.getfield 29, 3, 703, 0, 254) := rfl
theorem i_Run_item_254 : ins m_Run_item 254 = some (.aload_n 0, 1, 0, 0, 255) := rfl
theorem i_Run_item_255 : ins m_Run_item 255 = some (.getfield 43, 3, 706, 0, 258) := rfl
theorem i_Run_item_258 : ins m_Run_item 258 = some (.invokevirtual 118, 3, 93, 1, 261) := rfl
theorem i_Run_item_261 : ins m_Run_item 261 = some (.iinc 7 1, 3, 0, 0, 264) := rfl
theorem i_Run_item_264 : ins m_Run_item 264 = some (.goto (-246), 3, 18, 0, 267) := rfl
theorem i_Run_item_267 : ins m_Run_item 267 = some (.bipush (-17), 2, 0, 0, 269) := rfl
theorem i_Run_item_269 : ins m_Run_item 269 = some (.ireturn, 1, 0, 0, 270) := rfl
theorem i_Run_settled_0 : ins m_Run_settled 0 = some (.aload_n 0, 1, 0, 0, 1) := rfl
theorem i_Run_settled_1 : ins m_Run_settled 1 = some (.iload_n 1, 1, 0, 0, 2) := rfl
theorem i_Run_settled_2 : ins m_Run_settled 2 = some (.putfield 43, 3, 706, 0, 5) := rfl
theorem i_Run_settled_5 : ins m_Run_settled 5 = some (.aload_n 0, 1, 0, 0, 6) := rfl
theorem i_Run_settled_6 : ins m_Run_settled 6 = some (.iload_n 2, 1, 0, 0, 7) := rfl
theorem i_Run_settled_7 : ins m_Run_settled 7 = some (.putfield 62, 3, 712, 0, 10) := rfl
theorem i_Run_settled_10 : ins m_Run_settled 10 = some (.iload_n 1, 1, 0, 0, 11) := rfl
theorem i_Run_settled_11 : ins m_Run_settled 11 = some (.bipush (-2), 2, 0, 0, 13) := rfl
theorem i_Run_settled_13 : ins m_Run_settled 13 = some (.if_icmp .ne 8, 3, 21, 0, 16) := rfl
theorem i_Run_settled_16 : ins m_Run_settled 16 = some (.bipush (-19), 2, 0, 0, 18) := rfl
theorem i_Run_settled_18 : ins m_Run_settled 18 = some (.goto 4, 3, 22, 0, 21) := rfl
theorem i_Run_settled_21 : ins m_Run_settled 21 = some (.iload_n 3, 1, 0, 0, 22) := rfl
theorem i_Run_settled_22 : ins m_Run_settled 22 = some (.ireturn, 1, 0, 0, 23) := rfl
theorem i_Run_stepped_0 : ins m_Run_stepped 0 = some (.aload_n 0, 1, 0, 0, 1) := rfl
theorem i_Run_stepped_1 : ins m_Run_stepped 1 = some (.getfield 47, 3, 707, 0, 4) := rfl
theorem i_Run_stepped_4 : ins m_Run_stepped 4 = some (.sipush 1000, 3, 0, 0, 7) := rfl
theorem i_Run_stepped_7 : ins m_Run_stepped 7 = some (.if_icmp .ge 12, 3, 19, 0, 10) := rfl
theorem i_Run_stepped_10 : ins m_Run_stepped 10 = some (.aload_n 0, 1, 0, 0, 11) := rfl
theorem i_Run_stepped_11 : ins m_Run_stepped 11 = some (.getfield 50, 3, 708, 0, 14) := rfl
theorem i_Run_stepped_14 : ins m_Run_stepped 14 = some (.ldc 153, 2, 40000, 0, 16) := rfl
theorem i_Run_stepped_16 : ins m_Run_stepped 16 = some (.if_icmp .lt 6, 3, 22, 0, 19) := rfl
theorem i_Run_stepped_19 : ins m_Run_stepped 19 = some (.bipush (-17), 2, 0, 0, 21) := rfl
theorem i_Run_stepped_21 : ins m_Run_stepped 21 = some (.ireturn, 1, 0, 0, 22) := rfl
theorem i_Run_stepped_22 : ins m_Run_stepped 22 = some (.aload_n 0, 1, 0, 0, 23) := rfl
theorem i_Run_stepped_23 : ins m_Run_stepped 23 = some (.dup, 1, 0, 0, 24) := rfl
theorem i_Run_stepped_24 : ins m_Run_stepped 24 = some (.getfield 47, 3, 707, 0, 27) := rfl
theorem i_Run_stepped_27 : ins m_Run_stepped 27 = some (.iconst 1, 1, 0, 0, 28) := rfl
theorem i_Run_stepped_28 : ins m_Run_stepped 28 = some (.iadd, 1, 0, 0, 29) := rfl
theorem i_Run_stepped_29 : ins m_Run_stepped 29 = some (.putfield 47, 3, 707, 0, 32) := rfl
theorem i_Run_stepped_32 : ins m_Run_stepped 32 = some (.aload_n 0, 1, 0, 0, 33) := rfl
theorem i_Run_stepped_33 : ins m_Run_stepped 33 = some (.dup, 1, 0, 0, 34) := rfl
theorem i_Run_stepped_34 : ins m_Run_stepped 34 = some (.getfield 50, 3, 708, 0, 37) := rfl
theorem i_Run_stepped_37 : ins m_Run_stepped 37 = some (.iconst 1, 1, 0, 0, 38) := rfl
theorem i_Run_stepped_38 : ins m_Run_stepped 38 = some (.iadd, 1, 0, 0, 39) := rfl
theorem i_Run_stepped_39 : ins m_Run_stepped 39 = some (.putfield 50, 3, 708, 0, 42) := rfl
theorem i_Run_stepped_42 : ins m_Run_stepped 42 = some (.iload_n 3, 1, 0, 0, 43) := rfl
theorem i_Run_stepped_43 : ins m_Run_stepped 43 = some (.bipush 60, 2, 0, 0, 45) := rfl
theorem i_Run_stepped_45 : ins m_Run_stepped 45 = some (.if_icmp .lt 6, 3, 51, 0, 48) := rfl
theorem i_Run_stepped_48 : ins m_Run_stepped 48 = some (.bipush (-18), 2, 0, 0, 50) := rfl
theorem i_Run_stepped_50 : ins m_Run_stepped 50 = some (.ireturn, 1, 0, 0, 51) := rfl
theorem i_Run_stepped_51 : ins m_Run_stepped 51 = some (.aload_n 0, 1, 0, 0, 52) := rfl
theorem i_Run_stepped_52 : ins m_Run_stepped 52 = some (.iconst (-1), 1, 0, 0, 53) := rfl
theorem i_Run_stepped_53 : ins m_Run_stepped 53 = some (.putfield 43, 3, 706, 0, 56) := rfl
theorem i_Run_stepped_56 : ins m_Run_stepped 56 = some (.aload_n 0, 1, 0, 0, 57) := rfl
theorem i_Run_stepped_57 : ins m_Run_stepped 57 = some (.aload_n 1, 1, 0, 0, 58) := rfl
theorem i_Run_stepped_58 : ins m_Run_stepped 58 = some (.getfield 130, 3, 400, 0, 61) := rfl
theorem i_Run_stepped_61 : ins m_Run_stepped 61 = some (.bipush 7, 2, 0, 0, 63) := rfl
theorem i_Run_stepped_63 : ins m_Run_stepped 63 = some (.if_icmp .ne 7, 3, 70, 0, 66) := rfl
theorem i_Run_stepped_66 : ins m_Run_stepped 66 = some (.iconst 1, 1, 0, 0, 67) := rfl
theorem i_Run_stepped_67 : ins m_Run_stepped 67 = some (.goto 4, 3, 71, 0, 70) := rfl
theorem i_Run_stepped_70 : ins m_Run_stepped 70 = some (.iconst 0, 1, 0, 0, 71) := rfl
theorem i_Run_stepped_71 : ins m_Run_stepped 71 = some (.putfield 62, 3, 712, 0, 74) := rfl
theorem i_Run_stepped_74 : ins m_Run_stepped 74 = some (.aload_n 1, 1, 0, 0, 75) := rfl
theorem i_Run_stepped_75 : ins m_Run_stepped 75 = some (.getfield 130, 3, 400, 0, 78) := rfl
theorem i_Run_stepped_78 : ins m_Run_stepped 78 = some (.bipush 12, 2, 0, 0, 80) := rfl
theorem i_Run_stepped_80 : ins m_Run_stepped 80 = some (.if_icmp .ne 18, 3, 98, 0, 83) := rfl
theorem i_Run_stepped_83 : ins m_Run_stepped 83 = some (.aload_n 0, 1, 0, 0, 84) := rfl
theorem i_Run_stepped_84 : ins m_Run_stepped 84 = some (.aload_n 1, 1, 0, 0, 85) := rfl
theorem i_Run_stepped_85 : ins m_Run_stepped 85 = some (.getfield 133, 3, 403, 0, 88) := rfl
theorem i_Run_stepped_88 : ins m_Run_stepped 88 = some (.sipush 241, 3, 0, 0, 91) := rfl
theorem i_Run_stepped_91 : ins m_Run_stepped 91 = some (.imul, 1, 0, 0, 92) := rfl
theorem i_Run_stepped_92 : ins m_Run_stepped 92 = some (.iload_n 2, 1, 0, 0, 93) := rfl
theorem i_Run_stepped_93 : ins m_Run_stepped 93 = some (.iadd, 1, 0, 0, 94) := rfl
theorem i_Run_stepped_94 : ins m_Run_stepped 94 = some (.invokevirtual 154, 3, 74, 1, 97) := rfl
theorem i_Run_stepped_97 : ins m_Run_stepped 97 = some (.ireturn, 1, 0, 0, 98) := rfl
theorem i_Run_stepped_98 : ins m_Run_stepped 98 = some (.aload_n 1, 1, 0, 0, 99) := rfl
theorem i_Run_stepped_99 : ins m_Run_stepped 99 = some (.getfield 130, 3, 400, 0, 102) := rfl
theorem i_Run_stepped_102 : ins m_Run_stepped 102 = some (.bipush 7, 2, 0, 0, 104) := rfl
theorem i_Run_stepped_104 : ins m_Run_stepped 104 = some (.if_icmp .ne 5, 3, 109, 0, 107) := rfl
theorem i_Run_stepped_107 : ins m_Run_stepped 107 = some (.iload_n 2, 1, 0, 0, 108) := rfl
theorem i_Run_stepped_108 : ins m_Run_stepped 108 = some (.ireturn, 1, 0, 0, 109) := rfl
theorem i_Run_stepped_109 : ins m_Run_stepped 109 = some (.aload_n 1, 1, 0, 0, 110) := rfl
theorem i_Run_stepped_110 : ins m_Run_stepped 110 = some (.getfield 130, 3, 400, 0, 113) := rfl
theorem i_Run_stepped_113 : ins m_Run_stepped 113 = some (.iconst 4, 1, 0, 0, 114) := rfl
theorem i_Run_stepped_114 : ins m_Run_stepped 114 = some (.if_icmp .gt 12, 3, 126, 0, 117) := rfl
theorem i_Run_stepped_117 : ins m_Run_stepped 117 = some (.aload_n 0, 1, 0, 0, 118) := rfl
theorem i_Run_stepped_118 : ins m_Run_stepped 118 = some (.aload_n 1, 1, 0, 0, 119) := rfl
theorem i_Run_stepped_119 : ins m_Run_stepped 119 = some (.iload_n 2, 1, 0, 0, 120) := rfl
theorem i_Run_stepped_120 : ins m_Run_stepped 120 = some (.invokevirtual 157, 3, 75, 2, 123) := rfl
theorem i_Run_stepped_123 : ins m_Run_stepped 123 = some (.goto 5, 3, 128, 0, 126) := rfl
theorem i_Run_stepped_126 : ins m_Run_stepped 126 = some (.bipush (-7), 2, 0, 0, 128) := rfl
theorem i_Run_stepped_128 : ins m_Run_stepped 128 = some (.ireturn, 1, 0, 0, 129) := rfl
theorem i_Run_recalled_0 : ins m_Run_recalled 0 = some (.aload_n 0, 1, 0, 0, 1) := rfl
theorem i_Run_recalled_1 : ins m_Run_recalled 1 = some (.getfield 14, 3, 700, 0, 4) := rfl
theorem i_Run_recalled_4 : ins m_Run_recalled 4 = some (.iload_n 1, 1, 0, 0, 5) := rfl
theorem i_Run_recalled_5 : ins m_Run_recalled 5 = some (.invokevirtual 161, 3, 61, 1, 8) := rfl
theorem i_Run_recalled_8 : ins m_Run_recalled 8 = some (.istore_n 2, 1, 0, 0, 9) := rfl
theorem i_Run_recalled_9 : ins m_Run_recalled 9 = some (.iload_n 2, 1, 0, 0, 10) := rfl
theorem i_Run_recalled_10 : ins m_Run_recalled 10 = some (.bipush (-8), 2, 0, 0, 12) := rfl
theorem i_Run_recalled_12 : ins m_Run_recalled 12 = some (.if_icmp .ne 6, 3, 18, 0, 15) := rfl
theorem i_Run_recalled_15 : ins m_Run_recalled 15 = some (.bipush (-7), 2, 0, 0, 17) := rfl
theorem i_Run_recalled_17 : ins m_Run_recalled 17 = some (.ireturn, 1, 0, 0, 18) := rfl
theorem i_Run_recalled_18 : ins m_Run_recalled 18 = some (.iload_n 2, 1, 0, 0, 19) := rfl
theorem i_Run_recalled_19 : ins m_Run_recalled 19 = some (.bipush (-9), 2, 0, 0, 21) := rfl
theorem i_Run_recalled_21 : ins m_Run_recalled 21 = some (.if_icmp .ne 6, 3, 27, 0, 24) := rfl
theorem i_Run_recalled_24 : ins m_Run_recalled 24 = some (.bipush (-16), 2, 0, 0, 26) := rfl
theorem i_Run_recalled_26 : ins m_Run_recalled 26 = some (.ireturn, 1, 0, 0, 27) := rfl
theorem i_Run_recalled_27 : ins m_Run_recalled 27 = some (.aload_n 0, 1, 0, 0, 28) := rfl
theorem i_Run_recalled_28 : ins m_Run_recalled 28 = some (.dup, 1, 0, 0, 29) := rfl
theorem i_Run_recalled_29 : ins m_Run_recalled 29 = some (.getfield 53, 3, 709, 0, 32) := rfl
theorem i_Run_recalled_32 : ins m_Run_recalled 32 = some (.iconst 1, 1, 0, 0, 33) := rfl
theorem i_Run_recalled_33 : ins m_Run_recalled 33 = some (.iadd, 1, 0, 0, 34) := rfl
theorem i_Run_recalled_34 : ins m_Run_recalled 34 = some (.putfield 53, 3, 709, 0, 37) := rfl
theorem i_Run_recalled_37 : ins m_Run_recalled 37 = some (.aload_n 0, 1, 0, 0, 38) := rfl
theorem i_Run_recalled_38 : ins m_Run_recalled 38 = some (.aload_n 0, 1, 0, 0, 39) := rfl
theorem i_Run_recalled_39 : ins m_Run_recalled 39 = some (.getfield 20, 3, 701, 0, 42) := rfl
theorem i_Run_recalled_42 : ins m_Run_recalled 42 = some (.iload_n 1, 1, 0, 0, 43) := rfl
theorem i_Run_recalled_43 : ins m_Run_recalled 43 = some (.invokevirtual 161, 3, 61, 1, 46) := rfl
theorem i_Run_recalled_46 : ins m_Run_recalled 46 = some (.putfield 43, 3, 706, 0, 49) := rfl
theorem i_Run_recalled_49 : ins m_Run_recalled 49 = some (.aload_n 0, 1, 0, 0, 50) := rfl
theorem i_Run_recalled_50 : ins m_Run_recalled 50 = some (.aload_n 0, 1, 0, 0, 51) := rfl
theorem i_Run_recalled_51 : ins m_Run_recalled 51 = some (.getfield 23, 3, 702, 0, 54) := rfl
theorem i_Run_recalled_54 : ins m_Run_recalled 54 = some (.iload_n 1, 1, 0, 0, 55) := rfl
theorem i_Run_recalled_55 : ins m_Run_recalled 55 = some (.invokevirtual 161, 3, 61, 1, 58) := rfl
theorem i_Run_recalled_58 : ins m_Run_recalled 58 = some (.iconst 1, 1, 0, 0, 59) := rfl
theorem i_Run_recalled_59 : ins m_Run_recalled 59 = some (.if_icmp .ne 7, 3, 66, 0, 62) := rfl
theorem i_Run_recalled_62 : ins m_Run_recalled 62 = some (.iconst 1, 1, 0, 0, 63) := rfl
theorem i_Run_recalled_63 : ins m_Run_recalled 63 = some (.goto 4, 3, 67, 0, 66) := rfl
theorem i_Run_recalled_66 : ins m_Run_recalled 66 = some (.iconst 0, 1, 0, 0, 67) := rfl
theorem i_Run_recalled_67 : ins m_Run_recalled 67 = some (.putfield 62, 3, 712, 0, 70) := rfl
theorem i_Run_recalled_70 : ins m_Run_recalled 70 = some (.iload_n 2, 1, 0, 0, 71) := rfl
theorem i_Run_recalled_71 : ins m_Run_recalled 71 = some (.ireturn, 1, 0, 0, 72) := rfl
theorem i_Run_matched_0 : ins m_Run_matched 0 = some (.aload_n 0, 1, 0, 0, 1) := rfl
theorem i_Run_matched_1 : ins m_Run_matched 1 = some (.getfield 40, 3, 705, 0, 4) := rfl
theorem i_Run_matched_4 : ins m_Run_matched 4 = some (.iload_n 2, 1, 0, 0, 5) := rfl
theorem i_Run_matched_5 : ins m_Run_matched 5 = some (.invokevirtual 161, 3, 61, 1, 8) := rfl
theorem i_Run_matched_8 : ins m_Run_matched 8 = some (.istore_n 3, 1, 0, 0, 9) := rfl
theorem i_Run_matched_9 : ins m_Run_matched 9 = some (.aload_n 1, 1, 0, 0, 10) := rfl
theorem i_Run_matched_10 : ins m_Run_matched 10 = some (.getfield 130, 3, 400, 0, 13) := rfl
theorem i_Run_matched_13 : ins m_Run_matched 13 = some (.iconst 4, 1, 0, 0, 14) := rfl
theorem i_Run_matched_14 : ins m_Run_matched 14 = some (.if_icmp .ne 10, 3, 24, 0, 17) := rfl
theorem i_Run_matched_17 : ins m_Run_matched 17 = some (.iload_n 3, 1, 0, 0, 18) := rfl
theorem i_Run_matched_18 : ins m_Run_matched 18 = some (.iconst (-1), 1, 0, 0, 19) := rfl
theorem i_Run_matched_19 : ins m_Run_matched 19 = some (.if_icmp .ne 5, 3, 24, 0, 22) := rfl
theorem i_Run_matched_22 : ins m_Run_matched 22 = some (.iload_n 2, 1, 0, 0, 23) := rfl
theorem i_Run_matched_23 : ins m_Run_matched 23 = some (.ireturn, 1, 0, 0, 24) := rfl
theorem i_Run_matched_24 : ins m_Run_matched 24 = some (.aload_n 1, 1, 0, 0, 25) := rfl
theorem i_Run_matched_25 : ins m_Run_matched 25 = some (.iload_n 3, 1, 0, 0, 26) := rfl
theorem i_Run_matched_26 : ins m_Run_matched 26 = some (.invokestatic 164, 3, 76, 2, 29) := rfl
theorem i_Run_matched_29 : ins m_Run_matched 29 = some (.ifCond .ne 15, 3, 44, 0, 32) := rfl
theorem i_Run_matched_32 : ins m_Run_matched 32 = some (.aload_n 0, 1, 0, 0, 33) := rfl
theorem i_Run_matched_33 : ins m_Run_matched 33 = some (.aload_n 1, 1, 0, 0, 34) := rfl
theorem i_Run_matched_34 : ins m_Run_matched 34 = some (.getfield 168, 3, 402, 0, 37) := rfl
theorem i_Run_matched_37 : ins m_Run_matched 37 = some (.iload_n 2, 1, 0, 0, 38) := rfl
theorem i_Run_matched_38 : ins m_Run_matched 38 = some (.invokevirtual 172, 3, 80, 2, 41) := rfl
theorem i_Run_matched_41 : ins m_Run_matched 41 = some (.bipush (-5), 2, 0, 0, 43) := rfl
theorem i_Run_matched_43 : ins m_Run_matched 43 = some (.ireturn, 1, 0, 0, 44) := rfl
theorem i_Run_matched_44 : ins m_Run_matched 44 = some (.aload_n 0, 1, 0, 0, 45) := rfl
theorem i_Run_matched_45 : ins m_Run_matched 45 = some (.aload_n 1, 1, 0, 0, 46) := rfl
theorem i_Run_matched_46 : ins m_Run_matched 46 = some (.getfield 130, 3, 400, 0, 49) := rfl
theorem i_Run_matched_49 : ins m_Run_matched 49 = some (.iconst 2, 1, 0, 0, 50) := rfl
theorem i_Run_matched_50 : ins m_Run_matched 50 = some (.if_icmp .ne 10, 3, 60, 0, 53) := rfl
theorem i_Run_matched_53 : ins m_Run_matched 53 = some (.iload_n 3, 1, 0, 0, 54) := rfl
theorem i_Run_matched_54 : ins m_Run_matched 54 = some (.bipush 48, 2, 0, 0, 56) := rfl
theorem i_Run_matched_56 : ins m_Run_matched 56 = some (.isub, 1, 0, 0, 57) := rfl
theorem i_Run_matched_57 : ins m_Run_matched 57 = some (.goto 4, 3, 61, 0, 60) := rfl
theorem i_Run_matched_60 : ins m_Run_matched 60 = some (.iload_n 3, 1, 0, 0, 61) := rfl
theorem i_Run_matched_61 : ins m_Run_matched 61 = some (.putfield 43, 3, 706, 0, 64) := rfl
theorem i_Run_matched_64 : ins m_Run_matched 64 = some (.iload_n 2, 1, 0, 0, 65) := rfl
theorem i_Run_matched_65 : ins m_Run_matched 65 = some (.iconst 1, 1, 0, 0, 66) := rfl
theorem i_Run_matched_66 : ins m_Run_matched 66 = some (.iadd, 1, 0, 0, 67) := rfl
theorem i_Run_matched_67 : ins m_Run_matched 67 = some (.ireturn, 1, 0, 0, 68) := rfl
theorem i_Run_fits_0 : ins m_Run_fits 0 = some (.iload_n 1, 1, 0, 0, 1) := rfl
theorem i_Run_fits_1 : ins m_Run_fits 1 = some (.iconst (-1), 1, 0, 0, 2) := rfl
theorem i_Run_fits_2 : ins m_Run_fits 2 = some (.if_icmp .eq 11, 3, 13, 0, 5) := rfl
theorem i_Run_fits_5 : ins m_Run_fits 5 = some (.aload_n 0, 1, 0, 0, 6) := rfl
theorem i_Run_fits_6 : ins m_Run_fits 6 = some (.getfield 130, 3, 400, 0, 9) := rfl
theorem i_Run_fits_9 : ins m_Run_fits 9 = some (.iconst 4, 1, 0, 0, 10) := rfl
theorem i_Run_fits_10 : ins m_Run_fits 10 = some (.if_icmp .ne 5, 3, 15, 0, 13) := rfl
theorem i_Run_fits_13 : ins m_Run_fits 13 = some (.iconst 0, 1, 0, 0, 14) := rfl
theorem i_Run_fits_14 : ins m_Run_fits 14 = some (.ireturn, 1, 0, 0, 15) := rfl
theorem i_Run_fits_15 : ins m_Run_fits 15 = some (.aload_n 0, 1, 0, 0, 16) := rfl
theorem i_Run_fits_16 : ins m_Run_fits 16 = some (.getfield 130, 3, 400, 0, 19) := rfl
theorem i_Run_fits_19 : ins m_Run_fits 19 = some (.iconst 2, 1, 0, 0, 20) := rfl
theorem i_Run_fits_20 : ins m_Run_fits 20 = some (.if_icmp .ne 21, 3, 41, 0, 23) := rfl
theorem i_Run_fits_23 : ins m_Run_fits 23 = some (.iload_n 1, 1, 0, 0, 24) := rfl
theorem i_Run_fits_24 : ins m_Run_fits 24 = some (.bipush 48, 2, 0, 0, 26) := rfl
theorem i_Run_fits_26 : ins m_Run_fits 26 = some (.if_icmp .lt 13, 3, 39, 0, 29) := rfl
theorem i_Run_fits_29 : ins m_Run_fits 29 = some (.iload_n 1, 1, 0, 0, 30) := rfl
theorem i_Run_fits_30 : ins m_Run_fits 30 = some (.bipush 57, 2, 0, 0, 32) := rfl
theorem i_Run_fits_32 : ins m_Run_fits 32 = some (.if_icmp .gt 7, 3, 39, 0, 35) := rfl
theorem i_Run_fits_35 : ins m_Run_fits 35 = some (.iconst 1, 1, 0, 0, 36) := rfl
theorem i_Run_fits_36 : ins m_Run_fits 36 = some (.goto 4, 3, 40, 0, 39) := rfl
theorem i_Run_fits_39 : ins m_Run_fits 39 = some (.iconst 0, 1, 0, 0, 40) := rfl
theorem i_Run_fits_40 : ins m_Run_fits 40 = some (.ireturn, 1, 0, 0, 41) := rfl
theorem i_Run_fits_41 : ins m_Run_fits 41 = some (.aload_n 0, 1, 0, 0, 42) := rfl
theorem i_Run_fits_42 : ins m_Run_fits 42 = some (.getfield 130, 3, 400, 0, 45) := rfl
theorem i_Run_fits_45 : ins m_Run_fits 45 = some (.iconst 3, 1, 0, 0, 46) := rfl
theorem i_Run_fits_46 : ins m_Run_fits 46 = some (.if_icmp .eq 32, 3, 78, 0, 49) := rfl
theorem i_Run_fits_49 : ins m_Run_fits 49 = some (.aload_n 0, 1, 0, 0, 50) := rfl
theorem i_Run_fits_50 : ins m_Run_fits 50 = some (.getfield 168, 3, 402, 0, 53) := rfl
theorem i_Run_fits_53 : ins m_Run_fits 53 = some (.ifnull 29, 3, 82, 0, 56) := rfl
theorem i_Run_fits_56 : ins m_Run_fits 56 = some (.iload_n 1, 1, 0, 0, 57) := rfl
theorem i_Run_fits_57 : ins m_Run_fits 57 = some (.aload_n 0, 1, 0, 0, 58) := rfl
theorem i_Run_fits_58 : ins m_Run_fits 58 = some (.getfield 168, 3, 402, 0, 61) := rfl
theorem i_Run_fits_61 : ins m_Run_fits 61 = some (.getfield 176, 3, 3, 0, 64) := rfl
theorem i_Run_fits_64 : ins m_Run_fits 64 = some (.if_icmp .lt 18, 3, 82, 0, 67) := rfl
theorem i_Run_fits_67 : ins m_Run_fits 67 = some (.iload_n 1, 1, 0, 0, 68) := rfl
theorem i_Run_fits_68 : ins m_Run_fits 68 = some (.aload_n 0, 1, 0, 0, 69) := rfl
theorem i_Run_fits_69 : ins m_Run_fits 69 = some (.getfield 168, 3, 402, 0, 72) := rfl
theorem i_Run_fits_72 : ins m_Run_fits 72 = some (.getfield 181, 3, 4, 0, 75) := rfl
theorem i_Run_fits_75 : ins m_Run_fits 75 = some (.if_icmp .gt 7, 3, 82, 0, 78) := rfl
theorem i_Run_fits_78 : ins m_Run_fits 78 = some (.iconst 1, 1, 0, 0, 79) := rfl
theorem i_Run_fits_79 : ins m_Run_fits 79 = some (.goto 4, 3, 83, 0, 82) := rfl
theorem i_Run_fits_82 : ins m_Run_fits 82 = some (.iconst 0, 1, 0, 0, 83) := rfl
theorem i_Run_fits_83 : ins m_Run_fits 83 = some (.ireturn, 1, 0, 0, 84) := rfl
theorem i_Run_bracketed_0 : ins m_Run_bracketed 0 = some (.aload_n 0, 1, 0, 0, 1) := rfl
theorem i_Run_bracketed_1 : ins m_Run_bracketed 1 = some (.getfield 56, 3, 710, 0, 4) := rfl
theorem i_Run_bracketed_4 : ins m_Run_bracketed 4 = some (.istore 4, 2, 0, 0, 6) := rfl
theorem i_Run_bracketed_6 : ins m_Run_bracketed 6 = some (.aload_n 0, 1, 0, 0, 7) := rfl
theorem i_Run_bracketed_7 : ins m_Run_bracketed 7 = some (.getfield 59, 3, 711, 0, 10) := rfl
theorem i_Run_bracketed_10 : ins m_Run_bracketed 10 = some (.istore 5, 2, 0, 0, 12) := rfl
theorem i_Run_bracketed_12 : ins m_Run_bracketed 12 = some (.aload_n 1, 1, 0, 0, 13) := rfl
theorem i_Run_bracketed_13 : ins m_Run_bracketed 13 = some (.getfield 130, 3, 400, 0, 16) := rfl
theorem i_Run_bracketed_16 : ins m_Run_bracketed 16 = some (.iconst 5, 1, 0, 0, 17) := rfl
theorem i_Run_bracketed_17 : ins m_Run_bracketed 17 = some (.if_icmp .eq 12, 3, 29, 0, 20) := rfl
theorem i_Run_bracketed_20 : ins m_Run_bracketed 20 = some (.aload_n 1, 1, 0, 0, 21) := rfl
theorem i_Run_bracketed_21 : ins m_Run_bracketed 21 = some (.getfield 130, 3, 400, 0, 24) := rfl
theorem i_Run_bracketed_24 : ins m_Run_bracketed 24 = some (.bipush 6, 2, 0, 0, 26) := rfl
theorem i_Run_bracketed_26 : ins m_Run_bracketed 26 = some (.if_icmp .ne 7, 3, 33, 0, 29) := rfl
theorem i_Run_bracketed_29 : ins m_Run_bracketed 29 = some (.iconst 1, 1, 0, 0, 30) := rfl
theorem i_Run_bracketed_30 : ins m_Run_bracketed 30 = some (.goto 4, 3, 34, 0, 33) := rfl
theorem i_Run_bracketed_33 : ins m_Run_bracketed 33 = some (.iconst 0, 1, 0, 0, 34) := rfl
theorem i_Run_bracketed_34 : ins m_Run_bracketed 34 = some (.istore 6, 2, 0, 0, 36) := rfl
theorem i_Run_bracketed_36 : ins m_Run_bracketed 36 = some (.iload 6, 2, 0, 0, 38) := rfl
theorem i_Run_bracketed_38 : ins m_Run_bracketed 38 = some (.ifCond .eq 13, 3, 51, 0, 41) := rfl
theorem i_Run_bracketed_41 : ins m_Run_bracketed 41 = some (.aload_n 0, 1, 0, 0, 42) := rfl
theorem i_Run_bracketed_42 : ins m_Run_bracketed 42 = some (.iconst (-1), 1, 0, 0, 43) := rfl
theorem i_Run_bracketed_43 : ins m_Run_bracketed 43 = some (.putfield 56, 3, 710, 0, 46) := rfl
theorem i_Run_bracketed_46 : ins m_Run_bracketed 46 = some (.aload_n 0, 1, 0, 0, 47) := rfl
theorem i_Run_bracketed_47 : ins m_Run_bracketed 47 = some (.iconst 0, 1, 0, 0, 48) := rfl
theorem i_Run_bracketed_48 : ins m_Run_bracketed 48 = some (.putfield 59, 3, 711, 0, 51) := rfl
theorem i_Run_bracketed_51 : ins m_Run_bracketed 51 = some (.aload_n 0, 1, 0, 0, 52) := rfl
theorem i_Run_bracketed_52 : ins m_Run_bracketed 52 = some (.aload_n 1, 1, 0, 0, 53) := rfl
theorem i_Run_bracketed_53 : ins m_Run_bracketed 53 = some (.getfield 184, 3, 404, 0, 56) := rfl
theorem i_Run_bracketed_56 : ins m_Run_bracketed 56 = some (.iload_n 2, 1, 0, 0, 57) := rfl
theorem i_Run_bracketed_57 : ins m_Run_bracketed 57 = some (.iload_n 3, 1, 0, 0, 58) := rfl
theorem i_Run_bracketed_58 : ins m_Run_bracketed 58 = some (.invokevirtual 84, 3, 69, 3, 61) := rfl
theorem i_Run_bracketed_61 : ins m_Run_bracketed 61 = some (.istore 7, 2, 0, 0, 63) := rfl
theorem i_Run_bracketed_63 : ins m_Run_bracketed 63 = some (.iload 6, 2, 0, 0, 65) := rfl
theorem i_Run_bracketed_65 : ins m_Run_bracketed 65 = some (.ifCond .eq 17, 3, 82, 0, 68) := rfl
theorem i_Run_bracketed_68 : ins m_Run_bracketed 68 = some (.aload_n 0, 1, 0, 0, 69) := rfl
theorem i_Run_bracketed_69 : ins m_Run_bracketed 69 = some (.aload_n 1, 1, 0, 0, 70) := rfl
theorem i_Run_bracketed_70 : ins m_Run_bracketed 70 = some (.iload_n 2, 1, 0, 0, 71) := rfl
theorem i_Run_bracketed_71 : ins m_Run_bracketed 71 = some (.iload 7, 2, 0, 0, 73) := rfl
theorem i_Run_bracketed_73 : ins m_Run_bracketed 73 = some (.iload 4, 2, 0, 0, 75) := rfl
theorem i_Run_bracketed_75 : ins m_Run_bracketed 75 = some (.iload 5, 2, 0, 0, 77) := rfl
theorem i_Run_bracketed_77 : ins m_Run_bracketed 77 = some (.invokevirtual 186, 3, 78, 5, 80) := rfl
theorem i_Run_bracketed_80 : ins m_Run_bracketed 80 = some (.istore 7, 2, 0, 0, 82) := rfl
theorem i_Run_bracketed_82 : ins m_Run_bracketed 82 = some (.aload_n 0, 1, 0, 0, 83) := rfl
theorem i_Run_bracketed_83 : ins m_Run_bracketed 83 = some (.aload_n 0, 1, 0, 0, 84) := rfl
theorem i_Run_bracketed_84 : ins m_Run_bracketed 84 = some (.getfield 62, 3, 712, 0, 87) := rfl
theorem i_Run_bracketed_87 : ins m_Run_bracketed 87 = some (.ifCond .eq 25, 3, 112, 0, 90) := rfl
theorem i_Run_bracketed_90 : ins m_Run_bracketed 90 = some (.aload_n 1, 1, 0, 0, 91) := rfl
theorem i_Run_bracketed_91 : ins m_Run_bracketed 91 = some (.getfield 130, 3, 400, 0, 94) := rfl
theorem i_Run_bracketed_94 : ins m_Run_bracketed 94 = some (.bipush 11, 2, 0, 0, 96) := rfl
theorem i_Run_bracketed_96 : ins m_Run_bracketed 96 = some (.if_icmp .eq 12, 3, 108, 0, 99) := rfl
theorem i_Run_bracketed_99 : ins m_Run_bracketed 99 = some (.aload_n 1, 1, 0, 0, 100) := rfl
theorem i_Run_bracketed_100 : ins m_Run_bracketed 100 = some (.getfield 130, 3, 400, 0, 103) := rfl
theorem i_Run_bracketed_103 : ins m_Run_bracketed 103 = some (.bipush 6, 2, 0, 0, 105) := rfl
theorem i_Run_bracketed_105 : ins m_Run_bracketed 105 = some (.if_icmp .ne 7, 3, 112, 0, 108) := rfl
theorem i_Run_bracketed_108 : ins m_Run_bracketed 108 = some (.iconst 1, 1, 0, 0, 109) := rfl
theorem i_Run_bracketed_109 : ins m_Run_bracketed 109 = some (.goto 4, 3, 113, 0, 112) := rfl
theorem i_Run_bracketed_112 : ins m_Run_bracketed 112 = some (.iconst 0, 1, 0, 0, 113) := rfl
theorem i_Run_bracketed_113 : ins m_Run_bracketed 113 = some (.putfield 62, 3, 712, 0, 116) := rfl
theorem i_Run_bracketed_116 : ins m_Run_bracketed 116 = some (.aload_n 1, 1, 0, 0, 117) := rfl
theorem i_Run_bracketed_117 : ins m_Run_bracketed 117 = some (.getfield 130, 3, 400, 0, 120) := rfl
theorem i_Run_bracketed_120 : ins m_Run_bracketed 120 = some (.bipush 9, 2, 0, 0, 122) := rfl
theorem i_Run_bracketed_122 : ins m_Run_bracketed 122 = some (.if_icmp .ne 12, 3, 134, 0, 125) := rfl
theorem i_Run_bracketed_125 : ins m_Run_bracketed 125 = some (.iload 7, 2, 0, 0, 127) := rfl
theorem i_Run_bracketed_127 : ins m_Run_bracketed 127 = some (.ifCond .lt 7, 3, 134, 0, 130) := rfl
theorem i_Run_bracketed_130 : ins m_Run_bracketed 130 = some (.iload_n 2, 1, 0, 0, 131) := rfl
theorem i_Run_bracketed_131 : ins m_Run_bracketed 131 = some (.goto 5, 3, 136, 0, 134) := rfl
theorem i_Run_bracketed_134 : ins m_Run_bracketed 134 = some (.iload 7, 2, 0, 0, 136) := rfl
theorem i_Run_bracketed_136 : ins m_Run_bracketed 136 = some (.ireturn, 1, 0, 0, 137) := rfl
theorem i_Run_unveiled_0 : ins m_Run_unveiled 0 = some (.aload_n 0, 1, 0, 0, 1) := rfl
theorem i_Run_unveiled_1 : ins m_Run_unveiled 1 = some (.getfield 56, 3, 710, 0, 4) := rfl
theorem i_Run_unveiled_4 : ins m_Run_unveiled 4 = some (.istore 6, 2, 0, 0, 6) := rfl
theorem i_Run_unveiled_6 : ins m_Run_unveiled 6 = some (.aload_n 0, 1, 0, 0, 7) := rfl
theorem i_Run_unveiled_7 : ins m_Run_unveiled 7 = some (.getfield 59, 3, 711, 0, 10) := rfl
theorem i_Run_unveiled_10 : ins m_Run_unveiled 10 = some (.istore 7, 2, 0, 0, 12) := rfl
theorem i_Run_unveiled_12 : ins m_Run_unveiled 12 = some (.aload_n 0, 1, 0, 0, 13) := rfl
theorem i_Run_unveiled_13 : ins m_Run_unveiled 13 = some (.iload 4, 2, 0, 0, 15) := rfl
theorem i_Run_unveiled_15 : ins m_Run_unveiled 15 = some (.putfield 56, 3, 710, 0, 18) := rfl
theorem i_Run_unveiled_18 : ins m_Run_unveiled 18 = some (.aload_n 0, 1, 0, 0, 19) := rfl
theorem i_Run_unveiled_19 : ins m_Run_unveiled 19 = some (.iload 5, 2, 0, 0, 21) := rfl
theorem i_Run_unveiled_21 : ins m_Run_unveiled 21 = some (.putfield 59, 3, 711, 0, 24) := rfl
theorem i_Run_unveiled_24 : ins m_Run_unveiled 24 = some (.iload_n 3, 1, 0, 0, 25) := rfl
theorem i_Run_unveiled_25 : ins m_Run_unveiled 25 = some (.bipush (-5), 2, 0, 0, 27) := rfl
theorem i_Run_unveiled_27 : ins m_Run_unveiled 27 = some (.if_icmp .ge 5, 3, 32, 0, 30) := rfl
theorem i_Run_unveiled_30 : ins m_Run_unveiled 30 = some (.iload_n 3, 1, 0, 0, 31) := rfl
theorem i_Run_unveiled_31 : ins m_Run_unveiled 31 = some (.ireturn, 1, 0, 0, 32) := rfl
theorem i_Run_unveiled_32 : ins m_Run_unveiled 32 = some (.aload_n 1, 1, 0, 0, 33) := rfl
theorem i_Run_unveiled_33 : ins m_Run_unveiled 33 = some (.getfield 130, 3, 400, 0, 36) := rfl
theorem i_Run_unveiled_36 : ins m_Run_unveiled 36 = some (.iconst 5, 1, 0, 0, 37) := rfl
theorem i_Run_unveiled_37 : ins m_Run_unveiled 37 = some (.if_icmp .ne 34, 3, 71, 0, 40) := rfl
theorem i_Run_unveiled_40 : ins m_Run_unveiled 40 = some (.aload_n 0, 1, 0, 0, 41) := rfl
theorem i_Run_unveiled_41 : ins m_Run_unveiled 41 = some (.iconst (-1), 1, 0, 0, 42) := rfl
theorem i_Run_unveiled_42 : ins m_Run_unveiled 42 = some (.putfield 43, 3, 706, 0, 45) := rfl
theorem i_Run_unveiled_45 : ins m_Run_unveiled 45 = some (.iload_n 3, 1, 0, 0, 46) := rfl
theorem i_Run_unveiled_46 : ins m_Run_unveiled 46 = some (.ifCond .lt 12, 3, 58, 0, 49) := rfl
theorem i_Run_unveiled_49 : ins m_Run_unveiled 49 = some (.aload_n 0, 1, 0, 0, 50) := rfl
theorem i_Run_unveiled_50 : ins m_Run_unveiled 50 = some (.aload_n 1, 1, 0, 0, 51) := rfl
theorem i_Run_unveiled_51 : ins m_Run_unveiled 51 = some (.getfield 168, 3, 402, 0, 54) := rfl
theorem i_Run_unveiled_54 : ins m_Run_unveiled 54 = some (.iload_n 2, 1, 0, 0, 55) := rfl
theorem i_Run_unveiled_55 : ins m_Run_unveiled 55 = some (.invokevirtual 172, 3, 80, 2, 58) := rfl
theorem i_Run_unveiled_58 : ins m_Run_unveiled 58 = some (.iload_n 3, 1, 0, 0, 59) := rfl
theorem i_Run_unveiled_59 : ins m_Run_unveiled 59 = some (.bipush (-5), 2, 0, 0, 61) := rfl
theorem i_Run_unveiled_61 : ins m_Run_unveiled 61 = some (.if_icmp .ne 7, 3, 68, 0, 64) := rfl
theorem i_Run_unveiled_64 : ins m_Run_unveiled 64 = some (.iload_n 2, 1, 0, 0, 65) := rfl
theorem i_Run_unveiled_65 : ins m_Run_unveiled 65 = some (.goto 5, 3, 70, 0, 68) := rfl
theorem i_Run_unveiled_68 : ins m_Run_unveiled 68 = some (.bipush (-5), 2, 0, 0, 70) := rfl
theorem i_Run_unveiled_70 : ins m_Run_unveiled 70 = some (.ireturn, 1, 0, 0, 71) := rfl
theorem i_Run_unveiled_71 : ins m_Run_unveiled 71 = some (.iload_n 3, 1, 0, 0, 72) := rfl
theorem i_Run_unveiled_72 : ins m_Run_unveiled 72 = some (.ifCond .ge 9, 3, 81, 0, 75) := rfl
theorem i_Run_unveiled_75 : ins m_Run_unveiled 75 = some (.iload 6, 2, 0, 0, 77) := rfl
theorem i_Run_unveiled_77 : ins m_Run_unveiled 77 = some (.iload_n 2, 1, 0, 0, 78) := rfl
theorem i_Run_unveiled_78 : ins m_Run_unveiled 78 = some (.if_icmp .le 11, 3, 89, 0, 81) := rfl
theorem i_Run_unveiled_81 : ins m_Run_unveiled 81 = some (.aload_n 0, 1, 0, 0, 82) := rfl
theorem i_Run_unveiled_82 : ins m_Run_unveiled 82 = some (.iload 6, 2, 0, 0, 84) := rfl
theorem i_Run_unveiled_84 : ins m_Run_unveiled 84 = some (.iload 7, 2, 0, 0, 86) := rfl
theorem i_Run_unveiled_86 : ins m_Run_unveiled 86 = some (.invokevirtual 190, 3, 81, 2, 89) := rfl
theorem i_Run_unveiled_89 : ins m_Run_unveiled 89 = some (.iload_n 3, 1, 0, 0, 90) := rfl
theorem i_Run_unveiled_90 : ins m_Run_unveiled 90 = some (.bipush (-5), 2, 0, 0, 92) := rfl
theorem i_Run_unveiled_92 : ins m_Run_unveiled 92 = some (.if_icmp .ne 12, 3, 104, 0, 95) := rfl
theorem i_Run_unveiled_95 : ins m_Run_unveiled 95 = some (.aload_n 0, 1, 0, 0, 96) := rfl
theorem i_Run_unveiled_96 : ins m_Run_unveiled 96 = some (.aload_n 1, 1, 0, 0, 97) := rfl
theorem i_Run_unveiled_97 : ins m_Run_unveiled 97 = some (.getfield 168, 3, 402, 0, 100) := rfl
theorem i_Run_unveiled_100 : ins m_Run_unveiled 100 = some (.iload_n 2, 1, 0, 0, 101) := rfl
theorem i_Run_unveiled_101 : ins m_Run_unveiled 101 = some (.invokevirtual 172, 3, 80, 2, 104) := rfl
theorem i_Run_unveiled_104 : ins m_Run_unveiled 104 = some (.iload_n 3, 1, 0, 0, 105) := rfl
theorem i_Run_unveiled_105 : ins m_Run_unveiled 105 = some (.ireturn, 1, 0, 0, 106) := rfl
theorem i_Run_chained_0 : ins m_Run_chained 0 = some (.aload_n 0, 1, 0, 0, 1) := rfl
theorem i_Run_chained_1 : ins m_Run_chained 1 = some (.aload_n 1, 1, 0, 0, 2) := rfl
theorem i_Run_chained_2 : ins m_Run_chained 2 = some (.getfield 184, 3, 404, 0, 5) := rfl
theorem i_Run_chained_5 : ins m_Run_chained 5 = some (.iload_n 2, 1, 0, 0, 6) := rfl
theorem i_Run_chained_6 : ins m_Run_chained 6 = some (.iload_n 3, 1, 0, 0, 7) := rfl
theorem i_Run_chained_7 : ins m_Run_chained 7 = some (.invokevirtual 84, 3, 69, 3, 10) := rfl
theorem i_Run_chained_10 : ins m_Run_chained 10 = some (.istore 4, 2, 0, 0, 12) := rfl
theorem i_Run_chained_12 : ins m_Run_chained 12 = some (.aload_n 0, 1, 0, 0, 13) := rfl
theorem i_Run_chained_13 : ins m_Run_chained 13 = some (.getfield 43, 3, 706, 0, 16) := rfl
theorem i_Run_chained_16 : ins m_Run_chained 16 = some (.istore 5, 2, 0, 0, 18) := rfl
theorem i_Run_chained_18 : ins m_Run_chained 18 = some (.aload_n 0, 1, 0, 0, 19) := rfl
theorem i_Run_chained_19 : ins m_Run_chained 19 = some (.getfield 62, 3, 712, 0, 22) := rfl
theorem i_Run_chained_22 : ins m_Run_chained 22 = some (.istore 6, 2, 0, 0, 24) := rfl
theorem i_Run_chained_24 : ins m_Run_chained 24 = some (.iconst 0, 1, 0, 0, 25) := rfl
theorem i_Run_chained_25 : ins m_Run_chained 25 = some (.istore 7, 2, 0, 0, 27) := rfl
theorem i_Run_chained_27 : ins m_Run_chained 27 = some (.iload 7, 2, 0, 0, 29) := rfl
theorem i_Run_chained_29 : ins m_Run_chained 29 = some (.sipush 1000, 3, 0, 0, 32) := rfl
theorem i_Run_chained_32 : ins m_Run_chained 32 = some (.if_icmp .gt 203, 3, 235, 0, 35) := rfl
theorem i_Run_chained_35 : ins m_Run_chained 35 = some (.iload 4, 2, 0, 0, 37) := rfl
theorem i_Run_chained_37 : ins m_Run_chained 37 = some (.ifCond .lt 198, 3, 235, 0, 40) := rfl
theorem i_Run_chained_40 : ins m_Run_chained 40 = some (.aload_n 0, 1, 0, 0, 41) := rfl
theorem i_Run_chained_41 : ins m_Run_chained 41 = some (.aload_n 1, 1, 0, 0, 42) := rfl
theorem i_Run_chained_42 : ins m_Run_chained 42 = some (.getfield 193, 3, 405, 0, 45) := rfl
theorem i_Run_chained_45 : ins m_Run_chained 45 = some (.iload 4, 2, 0, 0, 47) := rfl
theorem i_Run_chained_47 : ins m_Run_chained 47 = some (.iload_n 3, 1, 0, 0, 48) := rfl
theorem i_Run_chained_48 : ins m_Run_chained 48 = some (.invokevirtual 84, 3, 69, 3, 51) := rfl
theorem i_Run_chained_51 : ins m_Run_chained 51 = some (.istore 8, 2, 0, 0, 53) := rfl
theorem i_Run_chained_53 : ins m_Run_chained 53 = some (.iload 8, 2, 0, 0, 55) := rfl
theorem i_Run_chained_55 : ins m_Run_chained 55 = some (.ifCond .ge 33, 3, 88, 0, 58) := rfl
theorem i_Run_chained_58 : ins m_Run_chained 58 = some (.iload 8, 2, 0, 0, 60) := rfl
theorem i_Run_chained_60 : ins m_Run_chained 60 = some (.bipush (-5), 2, 0, 0, 62) := rfl
theorem i_Run_chained_62 : ins m_Run_chained 62 = some (.if_icmp .ne 23, 3, 85, 0, 65) := rfl
theorem i_Run_chained_65 : ins m_Run_chained 65 = some (.aload_n 0, 1, 0, 0, 66) := rfl
theorem i_Run_chained_66 : ins m_Run_chained 66 = some (.getfield 62, 3, 712, 0, 69) := rfl
theorem i_Run_chained_69 : ins m_Run_chained 69 = some (.ifCond .ne 16, 3, 85, 0, 72) := rfl
theorem i_Run_chained_72 : ins m_Run_chained 72 = some (.aload_n 0, 1, 0, 0, 73) := rfl
theorem i_Run_chained_73 : ins m_Run_chained 73 = some (.iload 5, 2, 0, 0, 75) := rfl
theorem i_Run_chained_75 : ins m_Run_chained 75 = some (.iload 6, 2, 0, 0, 77) := rfl
theorem i_Run_chained_77 : ins m_Run_chained 77 = some (.iload 4, 2, 0, 0, 79) := rfl
theorem i_Run_chained_79 : ins m_Run_chained 79 = some (.invokevirtual 145, 3, 72, 3, 82) := rfl
theorem i_Run_chained_82 : ins m_Run_chained 82 = some (.goto 5, 3, 87, 0, 85) := rfl
theorem i_Run_chained_85 : ins m_Run_chained 85 = some (.iload 8, 2, 0, 0, 87) := rfl
theorem i_Run_chained_87 : ins m_Run_chained 87 = some (.ireturn, 1, 0, 0, 88) := rfl
theorem i_Run_chained_88 : ins m_Run_chained 88 = some (.aload_n 0, 1, 0, 0, 89) := rfl
theorem i_Run_chained_89 : ins m_Run_chained 89 = some (.getfield 43, 3, 706, 0, 92) := rfl
theorem i_Run_chained_92 : ins m_Run_chained 92 = some (.istore 9, 2, 0, 0, 94) := rfl
theorem i_Run_chained_94 : ins m_Run_chained 94 = some (.aload_n 0, 1, 0, 0, 95) := rfl
theorem i_Run_chained_95 : ins m_Run_chained 95 = some (.getfield 62, 3, 712, 0, 98) := rfl
theorem i_Run_chained_98 : ins m_Run_chained 98 = some (.istore 10, 2, 0, 0, 100) := rfl
theorem i_Run_chained_100 : ins m_Run_chained 100 = some (.aload_n 0, 1, 0, 0, 101) := rfl
theorem i_Run_chained_101 : ins m_Run_chained 101 = some (.aload_n 1, 1, 0, 0, 102) := rfl
theorem i_Run_chained_102 : ins m_Run_chained 102 = some (.getfield 184, 3, 404, 0, 105) := rfl
theorem i_Run_chained_105 : ins m_Run_chained 105 = some (.iload 8, 2, 0, 0, 107) := rfl
theorem i_Run_chained_107 : ins m_Run_chained 107 = some (.iload_n 3, 1, 0, 0, 108) := rfl
theorem i_Run_chained_108 : ins m_Run_chained 108 = some (.invokevirtual 84, 3, 69, 3, 111) := rfl
theorem i_Run_chained_111 : ins m_Run_chained 111 = some (.istore 8, 2, 0, 0, 113) := rfl
theorem i_Run_chained_113 : ins m_Run_chained 113 = some (.aload_n 0, 1, 0, 0, 114) := rfl
theorem i_Run_chained_114 : ins m_Run_chained 114 = some (.aload_n 0, 1, 0, 0, 115) := rfl
theorem i_Run_chained_115 : ins m_Run_chained 115 = some (.getfield 62, 3, 712, 0, 118) := rfl
theorem i_Run_chained_118 : ins m_Run_chained 118 = some (.ifCond .ne 8, 3, 126, 0, 121) := rfl
theorem i_Run_chained_121 : ins m_Run_chained 121 = some (.iload 10, 2, 0, 0, 123) := rfl
theorem i_Run_chained_123 : ins m_Run_chained 123 = some (.ifCond .eq 7, 3, 130, 0, 126) := rfl
theorem i_Run_chained_126 : ins m_Run_chained 126 = some (.iconst 1, 1, 0, 0, 127) := rfl
theorem i_Run_chained_127 : ins m_Run_chained 127 = some (.goto 4, 3, 131, 0, 130) := rfl
theorem i_Run_chained_130 : ins m_Run_chained 130 = some (.iconst 0, 1, 0, 0, 131) := rfl
theorem i_Run_chained_131 : ins m_Run_chained 131 = some (.putfield 62, 3, 712, 0, 134) := rfl
theorem i_Run_chained_134 : ins m_Run_chained 134 = some (.iload 8, 2, 0, 0, 136) := rfl
theorem i_Run_chained_136 : ins m_Run_chained 136 = some (.ifCond .ge 33, 3, 169, 0, 139) := rfl
theorem i_Run_chained_139 : ins m_Run_chained 139 = some (.iload 8, 2, 0, 0, 141) := rfl
theorem i_Run_chained_141 : ins m_Run_chained 141 = some (.bipush (-5), 2, 0, 0, 143) := rfl
theorem i_Run_chained_143 : ins m_Run_chained 143 = some (.if_icmp .ne 23, 3, 166, 0, 146) := rfl
theorem i_Run_chained_146 : ins m_Run_chained 146 = some (.aload_n 0, 1, 0, 0, 147) := rfl
theorem i_Run_chained_147 : ins m_Run_chained 147 = some (.getfield 62, 3, 712, 0, 150) := rfl
theorem i_Run_chained_150 : ins m_Run_chained 150 = some (.ifCond .ne 16, 3, 166, 0, 153) := rfl
theorem i_Run_chained_153 : ins m_Run_chained 153 = some (.aload_n 0, 1, 0, 0, 154) := rfl
theorem i_Run_chained_154 : ins m_Run_chained 154 = some (.iload 5, 2, 0, 0, 156) := rfl
theorem i_Run_chained_156 : ins m_Run_chained 156 = some (.iload 6, 2, 0, 0, 158) := rfl
theorem i_Run_chained_158 : ins m_Run_chained 158 = some (.iload 4, 2, 0, 0, 160) := rfl
theorem i_Run_chained_160 : ins m_Run_chained 160 = some (.invokevirtual 145, 3, 72, 3, 163) := rfl
theorem i_Run_chained_163 : ins m_Run_chained 163 = some (.goto 5, 3, 168, 0, 166) := rfl
theorem i_Run_chained_166 : ins m_Run_chained 166 = some (.iload 8, 2, 0, 0, 168) := rfl
theorem i_Run_chained_168 : ins m_Run_chained 168 = some (.ireturn, 1, 0, 0, 169) := rfl
theorem i_Run_chained_169 : ins m_Run_chained 169 = some (.iload 8, 2, 0, 0, 171) := rfl
theorem i_Run_chained_171 : ins m_Run_chained 171 = some (.iload 4, 2, 0, 0, 173) := rfl
theorem i_Run_chained_173 : ins m_Run_chained 173 = some (.if_icmp .ne 6, 3, 179, 0, 176) := rfl
theorem i_Run_chained_176 : ins m_Run_chained 176 = some (.bipush (-15), 2, 0, 0, 178) := rfl
theorem i_Run_chained_178 : ins m_Run_chained 178 = some (.ireturn, 1, 0, 0, 179) := rfl
theorem i_Run_chained_179 : ins m_Run_chained 179 = some (.aload_n 0, 1, 0, 0, 180) := rfl
theorem i_Run_chained_180 : ins m_Run_chained 180 = some (.getfield 29, 3, 703, 0, 183) := rfl
theorem i_Run_chained_183 : ins m_Run_chained 183 = some (.iload 9, 2, 0, 0, 185) := rfl
theorem i_Run_chained_185 : ins m_Run_chained 185 = some (.iload 5, 2, 0, 0, 187) := rfl
theorem i_Run_chained_187 : ins m_Run_chained 187 = some (.aload_n 0, 1, 0, 0, 188) := rfl
theorem i_Run_chained_188 : ins m_Run_chained 188 = some (.getfield 43, 3, 706, 0, 191) := rfl
theorem i_Run_chained_191 : ins m_Run_chained 191 = some (.invokevirtual 196, 3, 97, 3, 194) := rfl
theorem i_Run_chained_194 : ins m_Run_chained 194 = some (.istore 5, 2, 0, 0, 196) := rfl
theorem i_Run_chained_196 : ins m_Run_chained 196 = some (.iload 5, 2, 0, 0, 198) := rfl
theorem i_Run_chained_198 : ins m_Run_chained 198 = some (.bipush (-2), 2, 0, 0, 200) := rfl
theorem i_Run_chained_200 : ins m_Run_chained 200 = some (.if_icmp .ne 6, 3, 206, 0, 203) := rfl
theorem i_Run_chained_203 : ins m_Run_chained 203 = some (.bipush (-19), 2, 0, 0, 205) := rfl
theorem i_Run_chained_205 : ins m_Run_chained 205 = some (.ireturn, 1, 0, 0, 206) := rfl
theorem i_Run_chained_206 : ins m_Run_chained 206 = some (.iload 6, 2, 0, 0, 208) := rfl
theorem i_Run_chained_208 : ins m_Run_chained 208 = some (.ifCond .ne 10, 3, 218, 0, 211) := rfl
theorem i_Run_chained_211 : ins m_Run_chained 211 = some (.aload_n 0, 1, 0, 0, 212) := rfl
theorem i_Run_chained_212 : ins m_Run_chained 212 = some (.getfield 62, 3, 712, 0, 215) := rfl
theorem i_Run_chained_215 : ins m_Run_chained 215 = some (.ifCond .eq 7, 3, 222, 0, 218) := rfl
theorem i_Run_chained_218 : ins m_Run_chained 218 = some (.iconst 1, 1, 0, 0, 219) := rfl
theorem i_Run_chained_219 : ins m_Run_chained 219 = some (.goto 4, 3, 223, 0, 222) := rfl
theorem i_Run_chained_222 : ins m_Run_chained 222 = some (.iconst 0, 1, 0, 0, 223) := rfl
theorem i_Run_chained_223 : ins m_Run_chained 223 = some (.istore 6, 2, 0, 0, 225) := rfl
theorem i_Run_chained_225 : ins m_Run_chained 225 = some (.iload 8, 2, 0, 0, 227) := rfl
theorem i_Run_chained_227 : ins m_Run_chained 227 = some (.istore 4, 2, 0, 0, 229) := rfl
theorem i_Run_chained_229 : ins m_Run_chained 229 = some (.iinc 7 1, 3, 0, 0, 232) := rfl
theorem i_Run_chained_232 : ins m_Run_chained 232 = some (.goto (-205), 3, 27, 0, 235) := rfl
theorem i_Run_chained_235 : ins m_Run_chained 235 = some (.iload 4, 2, 0, 0, 237) := rfl
theorem i_Run_chained_237 : ins m_Run_chained 237 = some (.ireturn, 1, 0, 0, 238) := rfl
theorem i_Run_expect_0 : ins m_Run_expect 0 = some (.aload_n 1, 1, 0, 0, 1) := rfl
theorem i_Run_expect_1 : ins m_Run_expect 1 = some (.ifnull 12, 3, 13, 0, 4) := rfl
theorem i_Run_expect_4 : ins m_Run_expect 4 = some (.aload_n 0, 1, 0, 0, 5) := rfl
theorem i_Run_expect_5 : ins m_Run_expect 5 = some (.iload_n 2, 1, 0, 0, 6) := rfl
theorem i_Run_expect_6 : ins m_Run_expect 6 = some (.aload_n 1, 1, 0, 0, 7) := rfl
theorem i_Run_expect_7 : ins m_Run_expect 7 = some (.invokevirtual 199, 3, 1, 0, 10) := rfl
theorem i_Run_expect_10 : ins m_Run_expect 10 = some (.invokevirtual 190, 3, 81, 2, 13) := rfl
theorem i_Run_expect_13 : ins m_Run_expect 13 = some (.return_, 1, 0, 0, 14) := rfl
theorem i_Run_note_0 : ins m_Run_note 0 = some (.iload_n 1, 1, 0, 0, 1) := rfl
theorem i_Run_note_1 : ins m_Run_note 1 = some (.aload_n 0, 1, 0, 0, 2) := rfl
theorem i_Run_note_2 : ins m_Run_note 2 = some (.getfield 56, 3, 710, 0, 5) := rfl
theorem i_Run_note_5 : ins m_Run_note 5 = some (.if_icmp .le 16, 3, 21, 0, 8) := rfl
theorem i_Run_note_8 : ins m_Run_note 8 = some (.aload_n 0, 1, 0, 0, 9) := rfl
theorem i_Run_note_9 : ins m_Run_note 9 = some (.iload_n 1, 1, 0, 0, 10) := rfl
theorem i_Run_note_10 : ins m_Run_note 10 = some (.putfield 56, 3, 710, 0, 13) := rfl
theorem i_Run_note_13 : ins m_Run_note 13 = some (.aload_n 0, 1, 0, 0, 14) := rfl
theorem i_Run_note_14 : ins m_Run_note 14 = some (.iload_n 2, 1, 0, 0, 15) := rfl
theorem i_Run_note_15 : ins m_Run_note 15 = some (.putfield 59, 3, 711, 0, 18) := rfl
theorem i_Run_note_18 : ins m_Run_note 18 = some (.goto 21, 3, 39, 0, 21) := rfl
theorem i_Run_note_21 : ins m_Run_note 21 = some (.iload_n 1, 1, 0, 0, 22) := rfl
theorem i_Run_note_22 : ins m_Run_note 22 = some (.aload_n 0, 1, 0, 0, 23) := rfl
theorem i_Run_note_23 : ins m_Run_note 23 = some (.getfield 56, 3, 710, 0, 26) := rfl
theorem i_Run_note_26 : ins m_Run_note 26 = some (.if_icmp .ne 13, 3, 39, 0, 29) := rfl
theorem i_Run_note_29 : ins m_Run_note 29 = some (.aload_n 0, 1, 0, 0, 30) := rfl
theorem i_Run_note_30 : ins m_Run_note 30 = some (.dup, 1, 0, 0, 31) := rfl
theorem i_Run_note_31 : ins m_Run_note 31 = some (.getfield 59, 3, 711, 0, 34) := rfl
theorem i_Run_note_34 : ins m_Run_note 34 = some (.iload_n 2, 1, 0, 0, 35) := rfl
theorem i_Run_note_35 : ins m_Run_note 35 = some (.ior, 1, 0, 0, 36) := rfl
theorem i_Run_note_36 : ins m_Run_note 36 = some (.putfield 59, 3, 711, 0, 39) := rfl
theorem i_Run_note_39 : ins m_Run_note 39 = some (.return_, 1, 0, 0, 40) := rfl
theorem i_Seq_init_0 : ins m_Seq_init 0 = some (.aload_n 0, 1, 0, 0, 1) := rfl
theorem i_Seq_init_1 : ins m_Seq_init 1 = some (.invokespecial 1, 3, 9000, 0, 4) := rfl
theorem i_Seq_init_4 : ins m_Seq_init 4 = some (.aload_n 0, 1, 0, 0, 5) := rfl
theorem i_Seq_init_5 : ins m_Seq_init 5 = some (.aconst_null, 1, 0, 0, 6) := rfl
theorem i_Seq_init_6 : ins m_Seq_init 6 = some (.putfield 7, 3, 800, 0, 9) := rfl
theorem i_Seq_init_9 : ins m_Seq_init 9 = some (.aload_n 0, 1, 0, 0, 10) := rfl
theorem i_Seq_init_10 : ins m_Seq_init 10 = some (.aconst_null, 1, 0, 0, 11) := rfl
theorem i_Seq_init_11 : ins m_Seq_init 11 = some (.putfield 13, 3, 801, 0, 14) := rfl
theorem i_Seq_init_14 : ins m_Seq_init 14 = some (.return_, 1, 0, 0, 15) := rfl
theorem i_Trees_init_0 : ins m_Trees_init 0 = some (.aload_n 0, 1, 0, 0, 1) := rfl
theorem i_Trees_init_1 : ins m_Trees_init 1 = some (.invokespecial 5, 3, 9000, 0, 4) := rfl
theorem i_Trees_init_4 : ins m_Trees_init 4 = some (.aload_n 0, 1, 0, 0, 5) := rfl
theorem i_Trees_init_5 : ins m_Trees_init 5 = some (.new 11, 3, 6, 0, 8) := rfl
theorem i_Trees_init_8 : ins m_Trees_init 8 = some (.dup, 1, 0, 0, 9) := rfl
theorem i_Trees_init_9 : ins m_Trees_init 9 = some (.sipush 2257, 3, 0, 0, 12) := rfl
theorem i_Trees_init_12 : ins m_Trees_init 12 = some (.invokespecial 13, 3, 59, 1, 15) := rfl
theorem i_Trees_init_15 : ins m_Trees_init 15 = some (.putfield 16, 3, 900, 0, 18) := rfl
theorem i_Trees_init_18 : ins m_Trees_init 18 = some (.aload_n 0, 1, 0, 0, 19) := rfl
theorem i_Trees_init_19 : ins m_Trees_init 19 = some (.new 11, 3, 6, 0, 22) := rfl
theorem i_Trees_init_22 : ins m_Trees_init 22 = some (.dup, 1, 0, 0, 23) := rfl
theorem i_Trees_init_23 : ins m_Trees_init 23 = some (.sipush 2257, 3, 0, 0, 26) := rfl
theorem i_Trees_init_26 : ins m_Trees_init 26 = some (.invokespecial 13, 3, 59, 1, 29) := rfl
theorem i_Trees_init_29 : ins m_Trees_init 29 = some (.putfield 20, 3, 901, 0, 32) := rfl
theorem i_Trees_init_32 : ins m_Trees_init 32 = some (.aload_n 0, 1, 0, 0, 33) := rfl
theorem i_Trees_init_33 : ins m_Trees_init 33 = some (.new 11, 3, 6, 0, 36) := rfl
theorem i_Trees_init_36 : ins m_Trees_init 36 = some (.dup, 1, 0, 0, 37) := rfl
theorem i_Trees_init_37 : ins m_Trees_init 37 = some (.sipush 2257, 3, 0, 0, 40) := rfl
theorem i_Trees_init_40 : ins m_Trees_init 40 = some (.invokespecial 13, 3, 59, 1, 43) := rfl
theorem i_Trees_init_43 : ins m_Trees_init 43 = some (.putfield 23, 3, 902, 0, 46) := rfl
theorem i_Trees_init_46 : ins m_Trees_init 46 = some (.aload_n 0, 1, 0, 0, 47) := rfl
theorem i_Trees_init_47 : ins m_Trees_init 47 = some (.new 11, 3, 6, 0, 50) := rfl
theorem i_Trees_init_50 : ins m_Trees_init 50 = some (.dup, 1, 0, 0, 51) := rfl
theorem i_Trees_init_51 : ins m_Trees_init 51 = some (.sipush 2257, 3, 0, 0, 54) := rfl
theorem i_Trees_init_54 : ins m_Trees_init 54 = some (.invokespecial 13, 3, 59, 1, 57) := rfl
theorem i_Trees_init_57 : ins m_Trees_init 57 = some (.putfield 26, 3, 903, 0, 60) := rfl
theorem i_Trees_init_60 : ins m_Trees_init 60 = some (.aload_n 0, 1, 0, 0, 61) := rfl
theorem i_Trees_init_61 : ins m_Trees_init 61 = some (.new 11, 3, 6, 0, 64) := rfl
theorem i_Trees_init_64 : ins m_Trees_init 64 = some (.dup, 1, 0, 0, 65) := rfl
theorem i_Trees_init_65 : ins m_Trees_init 65 = some (.sipush 2257, 3, 0, 0, 68) := rfl
theorem i_Trees_init_68 : ins m_Trees_init 68 = some (.invokespecial 13, 3, 59, 1, 71) := rfl
theorem i_Trees_init_71 : ins m_Trees_init 71 = some (.putfield 29, 3, 904, 0, 74) := rfl
theorem i_Trees_init_74 : ins m_Trees_init 74 = some (.aload_n 0, 1, 0, 0, 75) := rfl
theorem i_Trees_init_75 : ins m_Trees_init 75 = some (.new 11, 3, 6, 0, 78) := rfl
theorem i_Trees_init_78 : ins m_Trees_init 78 = some (.dup, 1, 0, 0, 79) := rfl
theorem i_Trees_init_79 : ins m_Trees_init 79 = some (.sipush 3000, 3, 0, 0, 82) := rfl
theorem i_Trees_init_82 : ins m_Trees_init 82 = some (.invokespecial 13, 3, 59, 1, 85) := rfl
theorem i_Trees_init_85 : ins m_Trees_init 85 = some (.putfield 32, 3, 905, 0, 88) := rfl
theorem i_Trees_init_88 : ins m_Trees_init 88 = some (.aload_n 0, 1, 0, 0, 89) := rfl
theorem i_Trees_init_89 : ins m_Trees_init 89 = some (.new 11, 3, 6, 0, 92) := rfl
theorem i_Trees_init_92 : ins m_Trees_init 92 = some (.dup, 1, 0, 0, 93) := rfl
theorem i_Trees_init_93 : ins m_Trees_init 93 = some (.sipush 2000, 3, 0, 0, 96) := rfl
theorem i_Trees_init_96 : ins m_Trees_init 96 = some (.invokespecial 13, 3, 59, 1, 99) := rfl
theorem i_Trees_init_99 : ins m_Trees_init 99 = some (.putfield 35, 3, 906, 0, 102) := rfl
theorem i_Trees_init_102 : ins m_Trees_init 102 = some (.iconst 0, 1, 0, 0, 103) := rfl
theorem i_Trees_init_103 : ins m_Trees_init 103 = some (.istore_n 1, 1, 0, 0, 104) := rfl
theorem i_Trees_init_104 : ins m_Trees_init 104 = some (.iload_n 1, 1, 0, 0, 105) := rfl
theorem i_Trees_init_105 : ins m_Trees_init 105 = some (.sipush 256, 3, 0, 0, 108) := rfl
theorem i_Trees_init_108 : ins m_Trees_init 108 = some (.if_icmp .ge 18, 3, 126, 0, 111) := rfl
theorem i_Trees_init_111 : ins m_Trees_init 111 = some (.aload_n 0, 1, 0, 0, 112) := rfl
theorem i_Trees_init_112 : ins m_Trees_init 112 = some (.iconst 0, 1, 0, 0, 113) := rfl
theorem i_Trees_init_113 : ins m_Trees_init 113 = some (.iload_n 1, 1, 0, 0, 114) := rfl
theorem i_Trees_init_114 : ins m_Trees_init 114 = some (.iconst 1, 1, 0, 0, 115) := rfl
theorem i_Trees_init_115 : ins m_Trees_init 115 = some (.iload_n 1, 1, 0, 0, 116) := rfl
theorem i_Trees_init_116 : ins m_Trees_init 116 = some (.invokevirtual 38, 3, 85, 4, 119) := rfl
theorem i_Trees_init_119 : ins m_Trees_init 119 = some (.pop, 1, 0, 0, 120) := rfl
theorem i_Trees_init_120 : ins m_Trees_init 120 = some (.iinc 1 1, 3, 0, 0, 123) := rfl
theorem i_Trees_init_123 : ins m_Trees_init 123 = some (.goto (-19), 3, 104, 0, 126) := rfl
theorem i_Trees_init_126 : ins m_Trees_init 126 = some (.aload_n 0, 1, 0, 0, 127) := rfl
theorem i_Trees_init_127 : ins m_Trees_init 127 = some (.iconst 1, 1, 0, 0, 128) := rfl
theorem i_Trees_init_128 : ins m_Trees_init 128 = some (.iconst 0, 1, 0, 0, 129) := rfl
theorem i_Trees_init_129 : ins m_Trees_init 129 = some (.iconst 1, 1, 0, 0, 130) := rfl
theorem i_Trees_init_130 : ins m_Trees_init 130 = some (.iconst 0, 1, 0, 0, 131) := rfl
theorem i_Trees_init_131 : ins m_Trees_init 131 = some (.invokevirtual 38, 3, 85, 4, 134) := rfl
theorem i_Trees_init_134 : ins m_Trees_init 134 = some (.pop, 1, 0, 0, 135) := rfl
theorem i_Trees_init_135 : ins m_Trees_init 135 = some (.return_, 1, 0, 0, 136) := rfl
theorem i_Trees_clear_0 : ins m_Trees_clear 0 = some (.aload_n 0, 1, 0, 0, 1) := rfl
theorem i_Trees_clear_1 : ins m_Trees_clear 1 = some (.getfield 16, 3, 900, 0, 4) := rfl
theorem i_Trees_clear_4 : ins m_Trees_clear 4 = some (.sipush 257, 3, 0, 0, 7) := rfl
theorem i_Trees_clear_7 : ins m_Trees_clear 7 = some (.invokevirtual 42, 3, 64, 1, 10) := rfl
theorem i_Trees_clear_10 : ins m_Trees_clear 10 = some (.aload_n 0, 1, 0, 0, 11) := rfl
theorem i_Trees_clear_11 : ins m_Trees_clear 11 = some (.getfield 20, 3, 901, 0, 14) := rfl
theorem i_Trees_clear_14 : ins m_Trees_clear 14 = some (.sipush 257, 3, 0, 0, 17) := rfl
theorem i_Trees_clear_17 : ins m_Trees_clear 17 = some (.invokevirtual 42, 3, 64, 1, 20) := rfl
theorem i_Trees_clear_20 : ins m_Trees_clear 20 = some (.aload_n 0, 1, 0, 0, 21) := rfl
theorem i_Trees_clear_21 : ins m_Trees_clear 21 = some (.getfield 23, 3, 902, 0, 24) := rfl
theorem i_Trees_clear_24 : ins m_Trees_clear 24 = some (.sipush 257, 3, 0, 0, 27) := rfl
theorem i_Trees_clear_27 : ins m_Trees_clear 27 = some (.invokevirtual 42, 3, 64, 1, 30) := rfl
theorem i_Trees_clear_30 : ins m_Trees_clear 30 = some (.aload_n 0, 1, 0, 0, 31) := rfl
theorem i_Trees_clear_31 : ins m_Trees_clear 31 = some (.getfield 26, 3, 903, 0, 34) := rfl
theorem i_Trees_clear_34 : ins m_Trees_clear 34 = some (.sipush 257, 3, 0, 0, 37) := rfl
theorem i_Trees_clear_37 : ins m_Trees_clear 37 = some (.invokevirtual 42, 3, 64, 1, 40) := rfl
theorem i_Trees_clear_40 : ins m_Trees_clear 40 = some (.aload_n 0, 1, 0, 0, 41) := rfl
theorem i_Trees_clear_41 : ins m_Trees_clear 41 = some (.getfield 29, 3, 904, 0, 44) := rfl
theorem i_Trees_clear_44 : ins m_Trees_clear 44 = some (.sipush 257, 3, 0, 0, 47) := rfl
theorem i_Trees_clear_47 : ins m_Trees_clear 47 = some (.invokevirtual 42, 3, 64, 1, 50) := rfl
theorem i_Trees_clear_50 : ins m_Trees_clear 50 = some (.aload_n 0, 1, 0, 0, 51) := rfl
theorem i_Trees_clear_51 : ins m_Trees_clear 51 = some (.getfield 32, 3, 905, 0, 54) := rfl
theorem i_Trees_clear_54 : ins m_Trees_clear 54 = some (.iconst 0, 1, 0, 0, 55) := rfl
theorem i_Trees_clear_55 : ins m_Trees_clear 55 = some (.invokevirtual 42, 3, 64, 1, 58) := rfl
theorem i_Trees_clear_58 : ins m_Trees_clear 58 = some (.aload_n 0, 1, 0, 0, 59) := rfl
theorem i_Trees_clear_59 : ins m_Trees_clear 59 = some (.getfield 35, 3, 906, 0, 62) := rfl
theorem i_Trees_clear_62 : ins m_Trees_clear 62 = some (.iconst 0, 1, 0, 0, 63) := rfl
theorem i_Trees_clear_63 : ins m_Trees_clear 63 = some (.invokevirtual 42, 3, 64, 1, 66) := rfl
theorem i_Trees_clear_66 : ins m_Trees_clear 66 = some (.return_, 1, 0, 0, 67) := rfl
theorem i_Trees_make_0 : ins m_Trees_make 0 = some (.aload_n 0, 1, 0, 0, 1) := rfl
theorem i_Trees_make_1 : ins m_Trees_make 1 = some (.getfield 16, 3, 900, 0, 4) := rfl
theorem i_Trees_make_4 : ins m_Trees_make 4 = some (.iload_n 1, 1, 0, 0, 5) := rfl
theorem i_Trees_make_5 : ins m_Trees_make 5 = some (.invokevirtual 45, 3, 63, 1, 8) := rfl
theorem i_Trees_make_8 : ins m_Trees_make 8 = some (.aload_n 0, 1, 0, 0, 9) := rfl
theorem i_Trees_make_9 : ins m_Trees_make 9 = some (.getfield 20, 3, 901, 0, 12) := rfl
theorem i_Trees_make_12 : ins m_Trees_make 12 = some (.iload_n 2, 1, 0, 0, 13) := rfl
theorem i_Trees_make_13 : ins m_Trees_make 13 = some (.invokevirtual 45, 3, 63, 1, 16) := rfl
theorem i_Trees_make_16 : ins m_Trees_make 16 = some (.aload_n 0, 1, 0, 0, 17) := rfl
theorem i_Trees_make_17 : ins m_Trees_make 17 = some (.getfield 23, 3, 902, 0, 20) := rfl
theorem i_Trees_make_20 : ins m_Trees_make 20 = some (.aload_n 0, 1, 0, 0, 21) := rfl
theorem i_Trees_make_21 : ins m_Trees_make 21 = some (.getfield 32, 3, 905, 0, 24) := rfl
theorem i_Trees_make_24 : ins m_Trees_make 24 = some (.invokevirtual 48, 3, 60, 0, 27) := rfl
theorem i_Trees_make_27 : ins m_Trees_make 27 = some (.invokevirtual 45, 3, 63, 1, 30) := rfl
theorem i_Trees_make_30 : ins m_Trees_make 30 = some (.aload_n 0, 1, 0, 0, 31) := rfl
theorem i_Trees_make_31 : ins m_Trees_make 31 = some (.getfield 26, 3, 903, 0, 34) := rfl
theorem i_Trees_make_34 : ins m_Trees_make 34 = some (.iload_n 3, 1, 0, 0, 35) := rfl
theorem i_Trees_make_35 : ins m_Trees_make 35 = some (.invokevirtual 45, 3, 63, 1, 38) := rfl
theorem i_Trees_make_38 : ins m_Trees_make 38 = some (.aload_n 0, 1, 0, 0, 39) := rfl
theorem i_Trees_make_39 : ins m_Trees_make 39 = some (.getfield 29, 3, 904, 0, 42) := rfl
theorem i_Trees_make_42 : ins m_Trees_make 42 = some (.iload 4, 2, 0, 0, 44) := rfl
theorem i_Trees_make_44 : ins m_Trees_make 44 = some (.invokevirtual 45, 3, 63, 1, 47) := rfl
theorem i_Trees_make_47 : ins m_Trees_make 47 = some (.aload_n 0, 1, 0, 0, 48) := rfl
theorem i_Trees_make_48 : ins m_Trees_make 48 = some (.getfield 16, 3, 900, 0, 51) := rfl
theorem i_Trees_make_51 : ins m_Trees_make 51 = some (.invokevirtual 48, 3, 60, 0, 54) := rfl
theorem i_Trees_make_54 : ins m_Trees_make 54 = some (.iconst 1, 1, 0, 0, 55) := rfl
theorem i_Trees_make_55 : ins m_Trees_make 55 = some (.isub, 1, 0, 0, 56) := rfl
theorem i_Trees_make_56 : ins m_Trees_make 56 = some (.ireturn, 1, 0, 0, 57) := rfl
theorem i_Trees_sortOf_0 : ins m_Trees_sortOf 0 = some (.aload_n 0, 1, 0, 0, 1) := rfl
theorem i_Trees_sortOf_1 : ins m_Trees_sortOf 1 = some (.getfield 16, 3, 900, 0, 4) := rfl
theorem i_Trees_sortOf_4 : ins m_Trees_sortOf 4 = some (.iload_n 1, 1, 0, 0, 5) := rfl
theorem i_Trees_sortOf_5 : ins m_Trees_sortOf 5 = some (.invokevirtual 51, 3, 61, 1, 8) := rfl
theorem i_Trees_sortOf_8 : ins m_Trees_sortOf 8 = some (.ireturn, 1, 0, 0, 9) := rfl
theorem i_Trees_numberOf_0 : ins m_Trees_numberOf 0 = some (.aload_n 0, 1, 0, 0, 1) := rfl
theorem i_Trees_numberOf_1 : ins m_Trees_numberOf 1 = some (.getfield 20, 3, 901, 0, 4) := rfl
theorem i_Trees_numberOf_4 : ins m_Trees_numberOf 4 = some (.iload_n 1, 1, 0, 0, 5) := rfl
theorem i_Trees_numberOf_5 : ins m_Trees_numberOf 5 = some (.invokevirtual 51, 3, 61, 1, 8) := rfl
theorem i_Trees_numberOf_8 : ins m_Trees_numberOf 8 = some (.ireturn, 1, 0, 0, 9) := rfl
theorem i_Trees_sizeOf_0 : ins m_Trees_sizeOf 0 = some (.iload_n 1, 1, 0, 0, 1) := rfl
theorem i_Trees_sizeOf_1 : ins m_Trees_sizeOf 1 = some (.iconst (-1), 1, 0, 0, 2) := rfl
theorem i_Trees_sizeOf_2 : ins m_Trees_sizeOf 2 = some (.if_icmp .ne 7, 3, 9, 0, 5) := rfl
theorem i_Trees_sizeOf_5 : ins m_Trees_sizeOf 5 = some (.iconst 0, 1, 0, 0, 6) := rfl
theorem i_Trees_sizeOf_6 : ins m_Trees_sizeOf 6 = some (.goto 11, 3, 17, 0, 9) := rfl
theorem i_Trees_sizeOf_9 : ins m_Trees_sizeOf 9 = some (.aload_n 0, 1, 0, 0, 10) := rfl
theorem i_Trees_sizeOf_10 : ins m_Trees_sizeOf 10 = some (.getfield 26, 3, 903, 0, 13) := rfl
theorem i_Trees_sizeOf_13 : ins m_Trees_sizeOf 13 = some (.iload_n 1, 1, 0, 0, 14) := rfl
theorem i_Trees_sizeOf_14 : ins m_Trees_sizeOf 14 = some (.invokevirtual 51, 3, 61, 1, 17) := rfl
theorem i_Trees_sizeOf_17 : ins m_Trees_sizeOf 17 = some (.ireturn, 1, 0, 0, 18) := rfl
theorem i_Trees_valueOf_0 : ins m_Trees_valueOf 0 = some (.iload_n 1, 1, 0, 0, 1) := rfl
theorem i_Trees_valueOf_1 : ins m_Trees_valueOf 1 = some (.iconst (-1), 1, 0, 0, 2) := rfl
theorem i_Trees_valueOf_2 : ins m_Trees_valueOf 2 = some (.if_icmp .ne 7, 3, 9, 0, 5) := rfl
theorem i_Trees_valueOf_5 : ins m_Trees_valueOf 5 = some (.iconst 0, 1, 0, 0, 6) := rfl
theorem i_Trees_valueOf_6 : ins m_Trees_valueOf 6 = some (.goto 11, 3, 17, 0, 9) := rfl
theorem i_Trees_valueOf_9 : ins m_Trees_valueOf 9 = some (.aload_n 0, 1, 0, 0, 10) := rfl
theorem i_Trees_valueOf_10 : ins m_Trees_valueOf 10 = some (.getfield 29, 3, 904, 0, 13) := rfl
theorem i_Trees_valueOf_13 : ins m_Trees_valueOf 13 = some (.iload_n 1, 1, 0, 0, 14) := rfl
theorem i_Trees_valueOf_14 : ins m_Trees_valueOf 14 = some (.invokevirtual 51, 3, 61, 1, 17) := rfl
theorem i_Trees_valueOf_17 : ins m_Trees_valueOf 17 = some (.ireturn, 1, 0, 0, 18) := rfl
theorem i_Trees_kidsOf_0 : ins m_Trees_kidsOf 0 = some (.aload_n 0, 1, 0, 0, 1) := rfl
theorem i_Trees_kidsOf_1 : ins m_Trees_kidsOf 1 = some (.getfield 16, 3, 900, 0, 4) := rfl
theorem i_Trees_kidsOf_4 : ins m_Trees_kidsOf 4 = some (.iload_n 1, 1, 0, 0, 5) := rfl
theorem i_Trees_kidsOf_5 : ins m_Trees_kidsOf 5 = some (.invokevirtual 51, 3, 61, 1, 8) := rfl
theorem i_Trees_kidsOf_8 : ins m_Trees_kidsOf 8 = some (.istore_n 2, 1, 0, 0, 9) := rfl
theorem i_Trees_kidsOf_9 : ins m_Trees_kidsOf 9 = some (.iload_n 2, 1, 0, 0, 10) := rfl
theorem i_Trees_kidsOf_10 : ins m_Trees_kidsOf 10 = some (.iconst 1, 1, 0, 0, 11) := rfl
theorem i_Trees_kidsOf_11 : ins m_Trees_kidsOf 11 = some (.if_icmp .ne 14, 3, 25, 0, 14) := rfl
theorem i_Trees_kidsOf_14 : ins m_Trees_kidsOf 14 = some (.aload_n 0, 1, 0, 0, 15) := rfl
theorem i_Trees_kidsOf_15 : ins m_Trees_kidsOf 15 = some (.getfield 20, 3, 901, 0, 18) := rfl
theorem i_Trees_kidsOf_18 : ins m_Trees_kidsOf 18 = some (.iload_n 1, 1, 0, 0, 19) := rfl
theorem i_Trees_kidsOf_19 : ins m_Trees_kidsOf 19 = some (.invokevirtual 51, 3, 61, 1, 22) := rfl
theorem i_Trees_kidsOf_22 : ins m_Trees_kidsOf 22 = some (.goto 13, 3, 35, 0, 25) := rfl
theorem i_Trees_kidsOf_25 : ins m_Trees_kidsOf 25 = some (.iload_n 2, 1, 0, 0, 26) := rfl
theorem i_Trees_kidsOf_26 : ins m_Trees_kidsOf 26 = some (.iconst 2, 1, 0, 0, 27) := rfl
theorem i_Trees_kidsOf_27 : ins m_Trees_kidsOf 27 = some (.if_icmp .ne 7, 3, 34, 0, 30) := rfl
theorem i_Trees_kidsOf_30 : ins m_Trees_kidsOf 30 = some (.iconst 2, 1, 0, 0, 31) := rfl
theorem i_Trees_kidsOf_31 : ins m_Trees_kidsOf 31 = some (.goto 4, 3, 35, 0, 34) := rfl
theorem i_Trees_kidsOf_34 : ins m_Trees_kidsOf 34 = some (.iconst 0, 1, 0, 0, 35) := rfl
theorem i_Trees_kidsOf_35 : ins m_Trees_kidsOf 35 = some (.ireturn, 1, 0, 0, 36) := rfl
theorem i_Trees_kid_0 : ins m_Trees_kid 0 = some (.aload_n 0, 1, 0, 0, 1) := rfl
theorem i_Trees_kid_1 : ins m_Trees_kid 1 = some (.getfield 32, 3, 905, 0, 4) := rfl
theorem i_Trees_kid_4 : ins m_Trees_kid 4 = some (.aload_n 0, 1, 0, 0, 5) := rfl
theorem i_Trees_kid_5 : ins m_Trees_kid 5 = some (.getfield 23, 3, 902, 0, 8) := rfl
theorem i_Trees_kid_8 : ins m_Trees_kid 8 = some (.iload_n 1, 1, 0, 0, 9) := rfl
theorem i_Trees_kid_9 : ins m_Trees_kid 9 = some (.invokevirtual 51, 3, 61, 1, 12) := rfl
theorem i_Trees_kid_12 : ins m_Trees_kid 12 = some (.iload_n 2, 1, 0, 0, 13) := rfl
theorem i_Trees_kid_13 : ins m_Trees_kid 13 = some (.iadd, 1, 0, 0, 14) := rfl
theorem i_Trees_kid_14 : ins m_Trees_kid 14 = some (.invokevirtual 51, 3, 61, 1, 17) := rfl
theorem i_Trees_kid_17 : ins m_Trees_kid 17 = some (.ireturn, 1, 0, 0, 18) := rfl
theorem i_Trees_mark_0 : ins m_Trees_mark 0 = some (.aload_n 0, 1, 0, 0, 1) := rfl
theorem i_Trees_mark_1 : ins m_Trees_mark 1 = some (.getfield 35, 3, 906, 0, 4) := rfl
theorem i_Trees_mark_4 : ins m_Trees_mark 4 = some (.invokevirtual 48, 3, 60, 0, 7) := rfl
theorem i_Trees_mark_7 : ins m_Trees_mark 7 = some (.ireturn, 1, 0, 0, 8) := rfl
theorem i_Trees_hold_0 : ins m_Trees_hold 0 = some (.aload_n 0, 1, 0, 0, 1) := rfl
theorem i_Trees_hold_1 : ins m_Trees_hold 1 = some (.getfield 35, 3, 906, 0, 4) := rfl
theorem i_Trees_hold_4 : ins m_Trees_hold 4 = some (.iload_n 1, 1, 0, 0, 5) := rfl
theorem i_Trees_hold_5 : ins m_Trees_hold 5 = some (.invokevirtual 45, 3, 63, 1, 8) := rfl
theorem i_Trees_hold_8 : ins m_Trees_hold 8 = some (.return_, 1, 0, 0, 9) := rfl
theorem i_Trees_drop_0 : ins m_Trees_drop 0 = some (.aload_n 0, 1, 0, 0, 1) := rfl
theorem i_Trees_drop_1 : ins m_Trees_drop 1 = some (.getfield 35, 3, 906, 0, 4) := rfl
theorem i_Trees_drop_4 : ins m_Trees_drop 4 = some (.iload_n 1, 1, 0, 0, 5) := rfl
theorem i_Trees_drop_5 : ins m_Trees_drop 5 = some (.invokevirtual 42, 3, 64, 1, 8) := rfl
theorem i_Trees_drop_8 : ins m_Trees_drop 8 = some (.return_, 1, 0, 0, 9) := rfl
theorem i_Trees_bough_0 : ins m_Trees_bough 0 = some (.aload_n 0, 1, 0, 0, 1) := rfl
theorem i_Trees_bough_1 : ins m_Trees_bough 1 = some (.getfield 35, 3, 906, 0, 4) := rfl
theorem i_Trees_bough_4 : ins m_Trees_bough 4 = some (.invokevirtual 48, 3, 60, 0, 7) := rfl
theorem i_Trees_bough_7 : ins m_Trees_bough 7 = some (.iload_n 1, 1, 0, 0, 8) := rfl
theorem i_Trees_bough_8 : ins m_Trees_bough 8 = some (.isub, 1, 0, 0, 9) := rfl
theorem i_Trees_bough_9 : ins m_Trees_bough 9 = some (.istore_n 2, 1, 0, 0, 10) := rfl
theorem i_Trees_bough_10 : ins m_Trees_bough 10 = some (.iload_n 2, 1, 0, 0, 11) := rfl
theorem i_Trees_bough_11 : ins m_Trees_bough 11 = some (.ifCond .gt 7, 3, 18, 0, 14) := rfl
theorem i_Trees_bough_14 : ins m_Trees_bough 14 = some (.sipush 256, 3, 0, 0, 17) := rfl
theorem i_Trees_bough_17 : ins m_Trees_bough 17 = some (.ireturn, 1, 0, 0, 18) := rfl
theorem i_Trees_bough_18 : ins m_Trees_bough 18 = some (.iconst 1, 1, 0, 0, 19) := rfl
theorem i_Trees_bough_19 : ins m_Trees_bough 19 = some (.istore_n 3, 1, 0, 0, 20) := rfl
theorem i_Trees_bough_20 : ins m_Trees_bough 20 = some (.iconst 0, 1, 0, 0, 21) := rfl
theorem i_Trees_bough_21 : ins m_Trees_bough 21 = some (.istore 4, 2, 0, 0, 23) := rfl
theorem i_Trees_bough_23 : ins m_Trees_bough 23 = some (.iconst 0, 1, 0, 0, 24) := rfl
theorem i_Trees_bough_24 : ins m_Trees_bough 24 = some (.istore 5, 2, 0, 0, 26) := rfl
theorem i_Trees_bough_26 : ins m_Trees_bough 26 = some (.iload 5, 2, 0, 0, 28) := rfl
theorem i_Trees_bough_28 : ins m_Trees_bough 28 = some (.iload_n 2, 1, 0, 0, 29) := rfl
theorem i_Trees_bough_29 : ins m_Trees_bough 29 = some (.if_icmp .ge 51, 3, 80, 0, 32) := rfl
theorem i_Trees_bough_32 : ins m_Trees_bough 32 = some (.aload_n 0, 1, 0, 0, 33) := rfl
theorem i_Trees_bough_33 : ins m_Trees_bough 33 = some (.getfield 35, 3, 906, 0, 36) := rfl
theorem i_Trees_bough_36 : ins m_Trees_bough 36 = some (.iload_n 1, 1, 0, 0, 37) := rfl
theorem i_Trees_bough_37 : ins m_Trees_bough 37 = some (.iload 5, 2, 0, 0, 39) := rfl
theorem i_Trees_bough_39 : ins m_Trees_bough 39 = some (.iadd, 1, 0, 0, 40) := rfl
theorem i_Trees_bough_40 : ins m_Trees_bough 40 = some (.invokevirtual 51, 3, 61, 1, 43) := rfl
theorem i_Trees_bough_43 : ins m_Trees_bough 43 = some (.istore 6, 2, 0, 0, 45) := rfl
theorem i_Trees_bough_45 : ins m_Trees_bough 45 = some (.iload_n 3, 1, 0, 0, 46) := rfl
theorem i_Trees_bough_46 : ins m_Trees_bough 46 = some (.aload_n 0, 1, 0, 0, 47) := rfl
theorem i_Trees_bough_47 : ins m_Trees_bough 47 = some (.getfield 26, 3, 903, 0, 50) := rfl
theorem i_Trees_bough_50 : ins m_Trees_bough 50 = some (.iload 6, 2, 0, 0, 52) := rfl
theorem i_Trees_bough_52 : ins m_Trees_bough 52 = some (.invokevirtual 51, 3, 61, 1, 55) := rfl
theorem i_Trees_bough_55 : ins m_Trees_bough 55 = some (.iadd, 1, 0, 0, 56) := rfl
theorem i_Trees_bough_56 : ins m_Trees_bough 56 = some (.istore_n 3, 1, 0, 0, 57) := rfl
theorem i_Trees_bough_57 : ins m_Trees_bough 57 = some (.iload 4, 2, 0, 0, 59) := rfl
theorem i_Trees_bough_59 : ins m_Trees_bough 59 = some (.bipush 10, 2, 0, 0, 61) := rfl
theorem i_Trees_bough_61 : ins m_Trees_bough 61 = some (.imul, 1, 0, 0, 62) := rfl
theorem i_Trees_bough_62 : ins m_Trees_bough 62 = some (.aload_n 0, 1, 0, 0, 63) := rfl
theorem i_Trees_bough_63 : ins m_Trees_bough 63 = some (.getfield 29, 3, 904, 0, 66) := rfl
theorem i_Trees_bough_66 : ins m_Trees_bough 66 = some (.iload 6, 2, 0, 0, 68) := rfl
theorem i_Trees_bough_68 : ins m_Trees_bough 68 = some (.invokevirtual 51, 3, 61, 1, 71) := rfl
theorem i_Trees_bough_71 : ins m_Trees_bough 71 = some (.iadd, 1, 0, 0, 72) := rfl
theorem i_Trees_bough_72 : ins m_Trees_bough 72 = some (.istore 4, 2, 0, 0, 74) := rfl
theorem i_Trees_bough_74 : ins m_Trees_bough 74 = some (.iinc 5 1, 3, 0, 0, 77) := rfl
theorem i_Trees_bough_77 : ins m_Trees_bough 77 = some (.goto (-51), 3, 26, 0, 80) := rfl
theorem i_Trees_bough_80 : ins m_Trees_bough 80 = some (.iload_n 3, 1, 0, 0, 81) := rfl
theorem i_Trees_bough_81 : ins m_Trees_bough 81 = some (.sipush 2000, 3, 0, 0, 84) := rfl
theorem i_Trees_bough_84 : ins m_Trees_bough 84 = some (.if_icmp .le 6, 3, 90, 0, 87) := rfl
theorem i_Trees_bough_87 : ins m_Trees_bough 87 = some (.bipush (-2), 2, 0, 0, 89) := rfl
theorem i_Trees_bough_89 : ins m_Trees_bough 89 = some (.ireturn, 1, 0, 0, 90) := rfl
theorem i_Trees_bough_90 : ins m_Trees_bough 90 = some (.aload_n 0, 1, 0, 0, 91) := rfl
theorem i_Trees_bough_91 : ins m_Trees_bough 91 = some (.iconst 1, 1, 0, 0, 92) := rfl
theorem i_Trees_bough_92 : ins m_Trees_bough 92 = some (.iload_n 2, 1, 0, 0, 93) := rfl
theorem i_Trees_bough_93 : ins m_Trees_bough 93 = some (.iload_n 3, 1, 0, 0, 94) := rfl
theorem i_Trees_bough_94 : ins m_Trees_bough 94 = some (.iload 4, 2, 0, 0, 96) := rfl
theorem i_Trees_bough_96 : ins m_Trees_bough 96 = some (.invokevirtual 38, 3, 85, 4, 99) := rfl
theorem i_Trees_bough_99 : ins m_Trees_bough 99 = some (.istore 5, 2, 0, 0, 101) := rfl
theorem i_Trees_bough_101 : ins m_Trees_bough 101 = some (.iconst 0, 1, 0, 0, 102) := rfl
theorem i_Trees_bough_102 : ins m_Trees_bough 102 = some (.istore 6, 2, 0, 0, 104) := rfl
theorem i_Trees_bough_104 : ins m_Trees_bough 104 = some (.iload 6, 2, 0, 0, 106) := rfl
theorem i_Trees_bough_106 : ins m_Trees_bough 106 = some (.iload_n 2, 1, 0, 0, 107) := rfl
theorem i_Trees_bough_107 : ins m_Trees_bough 107 = some (.if_icmp .ge 27, 3, 134, 0, 110) := rfl
theorem i_Trees_bough_110 : ins m_Trees_bough 110 = some (.aload_n 0, 1, 0, 0, 111) := rfl
theorem i_Trees_bough_111 : ins m_Trees_bough 111 = some (.getfield 32, 3, 905, 0, 114) := rfl
theorem i_Trees_bough_114 : ins m_Trees_bough 114 = some (.aload_n 0, 1, 0, 0, 115) := rfl
theorem i_Trees_bough_115 : ins m_Trees_bough 115 = some (.getfield 35, 3, 906, 0, 118) := rfl
theorem i_Trees_bough_118 : ins m_Trees_bough 118 = some (.iload_n 1, 1, 0, 0, 119) := rfl
theorem i_Trees_bough_119 : ins m_Trees_bough 119 = some (.iload 6, 2, 0, 0, 121) := rfl
theorem i_Trees_bough_121 : ins m_Trees_bough 121 = some (.iadd, 1, 0, 0, 122) := rfl
theorem i_Trees_bough_122 : ins m_Trees_bough 122 = some (.invokevirtual 51, 3, 61, 1, 125) := rfl
theorem i_Trees_bough_125 : ins m_Trees_bough 125 = some (.invokevirtual 45, 3, 63, 1, 128) := rfl
theorem i_Trees_bough_128 : ins m_Trees_bough 128 = some (.iinc 6 1, 3, 0, 0, 131) := rfl
theorem i_Trees_bough_131 : ins m_Trees_bough 131 = some (.goto (-27), 3, 104, 0, 134) := rfl
theorem i_Trees_bough_134 : ins m_Trees_bough 134 = some (.aload_n 0, 1, 0, 0, 135) := rfl
theorem i_Trees_bough_135 : ins m_Trees_bough 135 = some (.getfield 35, 3, 906, 0, 138) := rfl
theorem i_Trees_bough_138 : ins m_Trees_bough 138 = some (.iload_n 1, 1, 0, 0, 139) := rfl
theorem i_Trees_bough_139 : ins m_Trees_bough 139 = some (.invokevirtual 42, 3, 64, 1, 142) := rfl
theorem i_Trees_bough_142 : ins m_Trees_bough 142 = some (.iload 5, 2, 0, 0, 144) := rfl
theorem i_Trees_bough_144 : ins m_Trees_bough 144 = some (.ireturn, 1, 0, 0, 145) := rfl
theorem i_Trees_joined_0 : ins m_Trees_joined 0 = some (.aload_n 0, 1, 0, 0, 1) := rfl
theorem i_Trees_joined_1 : ins m_Trees_joined 1 = some (.getfield 35, 3, 906, 0, 4) := rfl
theorem i_Trees_joined_4 : ins m_Trees_joined 4 = some (.invokevirtual 48, 3, 60, 0, 7) := rfl
theorem i_Trees_joined_7 : ins m_Trees_joined 7 = some (.iload_n 1, 1, 0, 0, 8) := rfl
theorem i_Trees_joined_8 : ins m_Trees_joined 8 = some (.isub, 1, 0, 0, 9) := rfl
theorem i_Trees_joined_9 : ins m_Trees_joined 9 = some (.istore_n 3, 1, 0, 0, 10) := rfl
theorem i_Trees_joined_10 : ins m_Trees_joined 10 = some (.iload_n 3, 1, 0, 0, 11) := rfl
theorem i_Trees_joined_11 : ins m_Trees_joined 11 = some (.iconst 1, 1, 0, 0, 12) := rfl
theorem i_Trees_joined_12 : ins m_Trees_joined 12 = some (.if_icmp .le 9, 3, 21, 0, 15) := rfl
theorem i_Trees_joined_15 : ins m_Trees_joined 15 = some (.aload_n 0, 1, 0, 0, 16) := rfl
theorem i_Trees_joined_16 : ins m_Trees_joined 16 = some (.iload_n 1, 1, 0, 0, 17) := rfl
theorem i_Trees_joined_17 : ins m_Trees_joined 17 = some (.invokevirtual 55, 3, 95, 1, 20) := rfl
theorem i_Trees_joined_20 : ins m_Trees_joined 20 = some (.ireturn, 1, 0, 0, 21) := rfl
theorem i_Trees_joined_21 : ins m_Trees_joined 21 = some (.iload_n 3, 1, 0, 0, 22) := rfl
theorem i_Trees_joined_22 : ins m_Trees_joined 22 = some (.iconst 1, 1, 0, 0, 23) := rfl
theorem i_Trees_joined_23 : ins m_Trees_joined 23 = some (.if_icmp .ne 14, 3, 37, 0, 26) := rfl
theorem i_Trees_joined_26 : ins m_Trees_joined 26 = some (.aload_n 0, 1, 0, 0, 27) := rfl
theorem i_Trees_joined_27 : ins m_Trees_joined 27 = some (.getfield 35, 3, 906, 0, 30) := rfl
theorem i_Trees_joined_30 : ins m_Trees_joined 30 = some (.iload_n 1, 1, 0, 0, 31) := rfl
theorem i_Trees_joined_31 : ins m_Trees_joined 31 = some (.invokevirtual 51, 3, 61, 1, 34) := rfl
theorem i_Trees_joined_34 : ins m_Trees_joined 34 = some (.goto 4, 3, 38, 0, 37) := rfl
theorem i_Trees_joined_37 : ins m_Trees_joined 37 = some (.iload_n 2, 1, 0, 0, 38) := rfl
theorem i_Trees_joined_38 : ins m_Trees_joined 38 = some (.istore 4, 2, 0, 0, 40) := rfl
theorem i_Trees_joined_40 : ins m_Trees_joined 40 = some (.aload_n 0, 1, 0, 0, 41) := rfl
theorem i_Trees_joined_41 : ins m_Trees_joined 41 = some (.getfield 35, 3, 906, 0, 44) := rfl
theorem i_Trees_joined_44 : ins m_Trees_joined 44 = some (.iload_n 1, 1, 0, 0, 45) := rfl
theorem i_Trees_joined_45 : ins m_Trees_joined 45 = some (.invokevirtual 42, 3, 64, 1, 48) := rfl
theorem i_Trees_joined_48 : ins m_Trees_joined 48 = some (.iload 4, 2, 0, 0, 50) := rfl
theorem i_Trees_joined_50 : ins m_Trees_joined 50 = some (.ireturn, 1, 0, 0, 51) := rfl
theorem i_Trees_fork_0 : ins m_Trees_fork 0 = some (.iload_n 2, 1, 0, 0, 1) := rfl
theorem i_Trees_fork_1 : ins m_Trees_fork 1 = some (.iconst (-1), 1, 0, 0, 2) := rfl
theorem i_Trees_fork_2 : ins m_Trees_fork 2 = some (.if_icmp .ne 9, 3, 11, 0, 5) := rfl
theorem i_Trees_fork_5 : ins m_Trees_fork 5 = some (.sipush 256, 3, 0, 0, 8) := rfl
theorem i_Trees_fork_8 : ins m_Trees_fork 8 = some (.goto 4, 3, 12, 0, 11) := rfl
theorem i_Trees_fork_11 : ins m_Trees_fork 11 = some (.iload_n 2, 1, 0, 0, 12) := rfl
theorem i_Trees_fork_12 : ins m_Trees_fork 12 = some (.istore 4, 2, 0, 0, 14) := rfl
theorem i_Trees_fork_14 : ins m_Trees_fork 14 = some (.iload_n 3, 1, 0, 0, 15) := rfl
theorem i_Trees_fork_15 : ins m_Trees_fork 15 = some (.iconst (-1), 1, 0, 0, 16) := rfl
theorem i_Trees_fork_16 : ins m_Trees_fork 16 = some (.if_icmp .ne 9, 3, 25, 0, 19) := rfl
theorem i_Trees_fork_19 : ins m_Trees_fork 19 = some (.sipush 256, 3, 0, 0, 22) := rfl
theorem i_Trees_fork_22 : ins m_Trees_fork 22 = some (.goto 4, 3, 26, 0, 25) := rfl
theorem i_Trees_fork_25 : ins m_Trees_fork 25 = some (.iload_n 3, 1, 0, 0, 26) := rfl
theorem i_Trees_fork_26 : ins m_Trees_fork 26 = some (.istore 5, 2, 0, 0, 28) := rfl
theorem i_Trees_fork_28 : ins m_Trees_fork 28 = some (.iconst 1, 1, 0, 0, 29) := rfl
theorem i_Trees_fork_29 : ins m_Trees_fork 29 = some (.aload_n 0, 1, 0, 0, 30) := rfl
theorem i_Trees_fork_30 : ins m_Trees_fork 30 = some (.getfield 26, 3, 903, 0, 33) := rfl
theorem i_Trees_fork_33 : ins m_Trees_fork 33 = some (.iload 4, 2, 0, 0, 35) := rfl
theorem i_Trees_fork_35 : ins m_Trees_fork 35 = some (.invokevirtual 51, 3, 61, 1, 38) := rfl
theorem i_Trees_fork_38 : ins m_Trees_fork 38 = some (.iadd, 1, 0, 0, 39) := rfl
theorem i_Trees_fork_39 : ins m_Trees_fork 39 = some (.aload_n 0, 1, 0, 0, 40) := rfl
theorem i_Trees_fork_40 : ins m_Trees_fork 40 = some (.getfield 26, 3, 903, 0, 43) := rfl
theorem i_Trees_fork_43 : ins m_Trees_fork 43 = some (.iload 5, 2, 0, 0, 45) := rfl
theorem i_Trees_fork_45 : ins m_Trees_fork 45 = some (.invokevirtual 51, 3, 61, 1, 48) := rfl
theorem i_Trees_fork_48 : ins m_Trees_fork 48 = some (.iadd, 1, 0, 0, 49) := rfl
theorem i_Trees_fork_49 : ins m_Trees_fork 49 = some (.istore 6, 2, 0, 0, 51) := rfl
theorem i_Trees_fork_51 : ins m_Trees_fork 51 = some (.iload 6, 2, 0, 0, 53) := rfl
theorem i_Trees_fork_53 : ins m_Trees_fork 53 = some (.sipush 2000, 3, 0, 0, 56) := rfl
theorem i_Trees_fork_56 : ins m_Trees_fork 56 = some (.if_icmp .le 6, 3, 62, 0, 59) := rfl
theorem i_Trees_fork_59 : ins m_Trees_fork 59 = some (.bipush (-2), 2, 0, 0, 61) := rfl
theorem i_Trees_fork_61 : ins m_Trees_fork 61 = some (.ireturn, 1, 0, 0, 62) := rfl
theorem i_Trees_fork_62 : ins m_Trees_fork 62 = some (.aload_n 0, 1, 0, 0, 63) := rfl
theorem i_Trees_fork_63 : ins m_Trees_fork 63 = some (.getfield 16, 3, 900, 0, 66) := rfl
theorem i_Trees_fork_66 : ins m_Trees_fork 66 = some (.iload_n 1, 1, 0, 0, 67) := rfl
theorem i_Trees_fork_67 : ins m_Trees_fork 67 = some (.invokevirtual 51, 3, 61, 1, 70) := rfl
theorem i_Trees_fork_70 : ins m_Trees_fork 70 = some (.ifCond .ne 14, 3, 84, 0, 73) := rfl
theorem i_Trees_fork_73 : ins m_Trees_fork 73 = some (.aload_n 0, 1, 0, 0, 74) := rfl
theorem i_Trees_fork_74 : ins m_Trees_fork 74 = some (.getfield 20, 3, 901, 0, 77) := rfl
theorem i_Trees_fork_77 : ins m_Trees_fork 77 = some (.iload_n 1, 1, 0, 0, 78) := rfl
theorem i_Trees_fork_78 : ins m_Trees_fork 78 = some (.invokevirtual 51, 3, 61, 1, 81) := rfl
theorem i_Trees_fork_81 : ins m_Trees_fork 81 = some (.goto 4, 3, 85, 0, 84) := rfl
theorem i_Trees_fork_84 : ins m_Trees_fork 84 = some (.iconst 0, 1, 0, 0, 85) := rfl
theorem i_Trees_fork_85 : ins m_Trees_fork 85 = some (.istore 7, 2, 0, 0, 87) := rfl
theorem i_Trees_fork_87 : ins m_Trees_fork 87 = some (.aload_n 0, 1, 0, 0, 88) := rfl
theorem i_Trees_fork_88 : ins m_Trees_fork 88 = some (.iconst 2, 1, 0, 0, 89) := rfl
theorem i_Trees_fork_89 : ins m_Trees_fork 89 = some (.iload 7, 2, 0, 0, 91) := rfl
theorem i_Trees_fork_91 : ins m_Trees_fork 91 = some (.iload 6, 2, 0, 0, 93) := rfl
theorem i_Trees_fork_93 : ins m_Trees_fork 93 = some (.iload 7, 2, 0, 0, 95) := rfl
theorem i_Trees_fork_95 : ins m_Trees_fork 95 = some (.aload_n 0, 1, 0, 0, 96) := rfl
theorem i_Trees_fork_96 : ins m_Trees_fork 96 = some (.getfield 29, 3, 904, 0, 99) := rfl
theorem i_Trees_fork_99 : ins m_Trees_fork 99 = some (.iload 4, 2, 0, 0, 101) := rfl
theorem i_Trees_fork_101 : ins m_Trees_fork 101 = some (.invokevirtual 51, 3, 61, 1, 104) := rfl
theorem i_Trees_fork_104 : ins m_Trees_fork 104 = some (.aload_n 0, 1, 0, 0, 105) := rfl
theorem i_Trees_fork_105 : ins m_Trees_fork 105 = some (.getfield 29, 3, 904, 0, 108) := rfl
theorem i_Trees_fork_108 : ins m_Trees_fork 108 = some (.iload 5, 2, 0, 0, 110) := rfl
theorem i_Trees_fork_110 : ins m_Trees_fork 110 = some (.invokevirtual 51, 3, 61, 1, 113) := rfl
theorem i_Trees_fork_113 : ins m_Trees_fork 113 = some (.invokestatic 58, 3, 98, 3, 116) := rfl
theorem i_Trees_fork_116 : ins m_Trees_fork 116 = some (.invokevirtual 38, 3, 85, 4, 119) := rfl
theorem i_Trees_fork_119 : ins m_Trees_fork 119 = some (.istore 8, 2, 0, 0, 121) := rfl
theorem i_Trees_fork_121 : ins m_Trees_fork 121 = some (.aload_n 0, 1, 0, 0, 122) := rfl
theorem i_Trees_fork_122 : ins m_Trees_fork 122 = some (.getfield 32, 3, 905, 0, 125) := rfl
theorem i_Trees_fork_125 : ins m_Trees_fork 125 = some (.iload 4, 2, 0, 0, 127) := rfl
theorem i_Trees_fork_127 : ins m_Trees_fork 127 = some (.invokevirtual 45, 3, 63, 1, 130) := rfl
theorem i_Trees_fork_130 : ins m_Trees_fork 130 = some (.aload_n 0, 1, 0, 0, 131) := rfl
theorem i_Trees_fork_131 : ins m_Trees_fork 131 = some (.getfield 32, 3, 905, 0, 134) := rfl
theorem i_Trees_fork_134 : ins m_Trees_fork 134 = some (.iload 5, 2, 0, 0, 136) := rfl
theorem i_Trees_fork_136 : ins m_Trees_fork 136 = some (.invokevirtual 45, 3, 63, 1, 139) := rfl
theorem i_Trees_fork_139 : ins m_Trees_fork 139 = some (.iload 8, 2, 0, 0, 141) := rfl
theorem i_Trees_fork_141 : ins m_Trees_fork 141 = some (.ireturn, 1, 0, 0, 142) := rfl
theorem i_Trees_reckoned_0 : ins m_Trees_reckoned 0 = some (.iload_n 0, 1, 0, 0, 1) := rfl
theorem i_Trees_reckoned_1 : ins m_Trees_reckoned 1 = some (.bipush 43, 2, 0, 0, 3) := rfl
theorem i_Trees_reckoned_3 : ins m_Trees_reckoned 3 = some (.if_icmp .ne 9, 3, 12, 0, 6) := rfl
theorem i_Trees_reckoned_6 : ins m_Trees_reckoned 6 = some (.iload_n 1, 1, 0, 0, 7) := rfl
theorem i_Trees_reckoned_7 : ins m_Trees_reckoned 7 = some (.iload_n 2, 1, 0, 0, 8) := rfl
theorem i_Trees_reckoned_8 : ins m_Trees_reckoned 8 = some (.iadd, 1, 0, 0, 9) := rfl
theorem i_Trees_reckoned_9 : ins m_Trees_reckoned 9 = some (.goto 28, 3, 37, 0, 12) := rfl
theorem i_Trees_reckoned_12 : ins m_Trees_reckoned 12 = some (.iload_n 0, 1, 0, 0, 13) := rfl
theorem i_Trees_reckoned_13 : ins m_Trees_reckoned 13 = some (.bipush 45, 2, 0, 0, 15) := rfl
theorem i_Trees_reckoned_15 : ins m_Trees_reckoned 15 = some (.if_icmp .ne 9, 3, 24, 0, 18) := rfl
theorem i_Trees_reckoned_18 : ins m_Trees_reckoned 18 = some (.iload_n 1, 1, 0, 0, 19) := rfl
theorem i_Trees_reckoned_19 : ins m_Trees_reckoned 19 = some (.iload_n 2, 1, 0, 0, 20) := rfl
theorem i_Trees_reckoned_20 : ins m_Trees_reckoned 20 = some (.isub, 1, 0, 0, 21) := rfl
theorem i_Trees_reckoned_21 : ins m_Trees_reckoned 21 = some (.goto 16, 3, 37, 0, 24) := rfl
theorem i_Trees_reckoned_24 : ins m_Trees_reckoned 24 = some (.iload_n 0, 1, 0, 0, 25) := rfl
theorem i_Trees_reckoned_25 : ins m_Trees_reckoned 25 = some (.bipush 42, 2, 0, 0, 27) := rfl
theorem i_Trees_reckoned_27 : ins m_Trees_reckoned 27 = some (.if_icmp .ne 9, 3, 36, 0, 30) := rfl
theorem i_Trees_reckoned_30 : ins m_Trees_reckoned 30 = some (.iload_n 1, 1, 0, 0, 31) := rfl
theorem i_Trees_reckoned_31 : ins m_Trees_reckoned 31 = some (.iload_n 2, 1, 0, 0, 32) := rfl
theorem i_Trees_reckoned_32 : ins m_Trees_reckoned 32 = some (.imul, 1, 0, 0, 33) := rfl
theorem i_Trees_reckoned_33 : ins m_Trees_reckoned 33 = some (.goto 4, 3, 37, 0, 36) := rfl
theorem i_Trees_reckoned_36 : ins m_Trees_reckoned 36 = some (.iconst 0, 1, 0, 0, 37) := rfl
theorem i_Trees_reckoned_37 : ins m_Trees_reckoned 37 = some (.ireturn, 1, 0, 0, 38) := rfl
theorem i_CP_init_0 : ins m_CP_init 0 = some (.aload_n 0, 1, 0, 0, 1) := rfl
theorem i_CP_init_1 : ins m_CP_init 1 = some (.invokespecial 3, 3, 9000, 0, 4) := rfl
theorem i_CP_init_4 : ins m_CP_init 4 = some (.aload_n 0, 1, 0, 0, 5) := rfl
theorem i_CP_init_5 : ins m_CP_init 5 = some (.new 9, 3, 6, 0, 8) := rfl
theorem i_CP_init_8 : ins m_CP_init 8 = some (.dup, 1, 0, 0, 9) := rfl
theorem i_CP_init_9 : ins m_CP_init 9 = some (.sipush 240, 3, 0, 0, 12) := rfl
theorem i_CP_init_12 : ins m_CP_init 12 = some (.invokespecial 11, 3, 59, 1, 15) := rfl
theorem i_CP_init_15 : ins m_CP_init 15 = some (.putfield 14, 3, 1000, 0, 18) := rfl
theorem i_CP_init_18 : ins m_CP_init 18 = some (.aload_n 0, 1, 0, 0, 19) := rfl
theorem i_CP_init_19 : ins m_CP_init 19 = some (.new 9, 3, 6, 0, 22) := rfl
theorem i_CP_init_22 : ins m_CP_init 22 = some (.dup, 1, 0, 0, 23) := rfl
theorem i_CP_init_23 : ins m_CP_init 23 = some (.sipush 240, 3, 0, 0, 26) := rfl
theorem i_CP_init_26 : ins m_CP_init 26 = some (.invokespecial 11, 3, 59, 1, 29) := rfl
theorem i_CP_init_29 : ins m_CP_init 29 = some (.putfield 18, 3, 1001, 0, 32) := rfl
theorem i_CP_init_32 : ins m_CP_init 32 = some (.aload_n 0, 1, 0, 0, 33) := rfl
theorem i_CP_init_33 : ins m_CP_init 33 = some (.new 9, 3, 6, 0, 36) := rfl
theorem i_CP_init_36 : ins m_CP_init 36 = some (.dup, 1, 0, 0, 37) := rfl
theorem i_CP_init_37 : ins m_CP_init 37 = some (.bipush 20, 2, 0, 0, 39) := rfl
theorem i_CP_init_39 : ins m_CP_init 39 = some (.invokespecial 11, 3, 59, 1, 42) := rfl
theorem i_CP_init_42 : ins m_CP_init 42 = some (.putfield 21, 3, 1002, 0, 45) := rfl
theorem i_CP_init_45 : ins m_CP_init 45 = some (.aload_n 0, 1, 0, 0, 46) := rfl
theorem i_CP_init_46 : ins m_CP_init 46 = some (.new 24, 3, 7, 0, 49) := rfl
theorem i_CP_init_49 : ins m_CP_init 49 = some (.dup, 1, 0, 0, 50) := rfl
theorem i_CP_init_50 : ins m_CP_init 50 = some (.invokespecial 26, 3, 66, 0, 53) := rfl
theorem i_CP_init_53 : ins m_CP_init 53 = some (.putfield 27, 3, 1003, 0, 56) := rfl
theorem i_CP_init_56 : ins m_CP_init 56 = some (.aload_n 0, 1, 0, 0, 57) := rfl
theorem i_CP_init_57 : ins m_CP_init 57 = some (.new 31, 3, 2, 0, 60) := rfl
theorem i_CP_init_60 : ins m_CP_init 60 = some (.dup, 1, 0, 0, 61) := rfl
theorem i_CP_init_61 : ins m_CP_init 61 = some (.invokespecial 33, 3, 11, 0, 64) := rfl
theorem i_CP_init_64 : ins m_CP_init 64 = some (.putfield 34, 3, 1004, 0, 67) := rfl
theorem i_CP_init_67 : ins m_CP_init 67 = some (.aload_n 0, 1, 0, 0, 68) := rfl
theorem i_CP_init_68 : ins m_CP_init 68 = some (.new 38, 3, 1, 0, 71) := rfl
theorem i_CP_init_71 : ins m_CP_init 71 = some (.dup, 1, 0, 0, 72) := rfl
theorem i_CP_init_72 : ins m_CP_init 72 = some (.invokespecial 40, 3, 2, 0, 75) := rfl
theorem i_CP_init_75 : ins m_CP_init 75 = some (.putfield 41, 3, 1005, 0, 78) := rfl
theorem i_CP_init_78 : ins m_CP_init 78 = some (.return_, 1, 0, 0, 79) := rfl
theorem i_CP_feed_0 : ins m_CP_feed 0 = some (.iload_n 1, 1, 0, 0, 1) := rfl
theorem i_CP_feed_1 : ins m_CP_feed 1 = some (.iconst 1, 1, 0, 0, 2) := rfl
theorem i_CP_feed_2 : ins m_CP_feed 2 = some (.if_icmp .lt 8, 3, 10, 0, 5) := rfl
theorem i_CP_feed_5 : ins m_CP_feed 5 = some (.iload_n 1, 1, 0, 0, 6) := rfl
theorem i_CP_feed_6 : ins m_CP_feed 6 = some (.iconst 4, 1, 0, 0, 7) := rfl
theorem i_CP_feed_7 : ins m_CP_feed 7 = some (.if_icmp .le 6, 3, 13, 0, 10) := rfl
theorem i_CP_feed_10 : ins m_CP_feed 10 = some (.bipush (-2), 2, 0, 0, 12) := rfl
theorem i_CP_feed_12 : ins m_CP_feed 12 = some (.ireturn, 1, 0, 0, 13) := rfl
theorem i_CP_feed_13 : ins m_CP_feed 13 = some (.aload_n 0, 1, 0, 0, 14) := rfl
theorem i_CP_feed_14 : ins m_CP_feed 14 = some (.getfield 14, 3, 1000, 0, 17) := rfl
theorem i_CP_feed_17 : ins m_CP_feed 17 = some (.invokevirtual 45, 3, 60, 0, 20) := rfl
theorem i_CP_feed_20 : ins m_CP_feed 20 = some (.iload_n 1, 1, 0, 0, 21) := rfl
theorem i_CP_feed_21 : ins m_CP_feed 21 = some (.iadd, 1, 0, 0, 22) := rfl
theorem i_CP_feed_22 : ins m_CP_feed 22 = some (.sipush 240, 3, 0, 0, 25) := rfl
theorem i_CP_feed_25 : ins m_CP_feed 25 = some (.if_icmp .le 6, 3, 31, 0, 28) := rfl
theorem i_CP_feed_28 : ins m_CP_feed 28 = some (.bipush (-4), 2, 0, 0, 30) := rfl
theorem i_CP_feed_30 : ins m_CP_feed 30 = some (.ireturn, 1, 0, 0, 31) := rfl
theorem i_CP_feed_31 : ins m_CP_feed 31 = some (.iconst 0, 1, 0, 0, 32) := rfl
theorem i_CP_feed_32 : ins m_CP_feed 32 = some (.istore_n 3, 1, 0, 0, 33) := rfl
theorem i_CP_feed_33 : ins m_CP_feed 33 = some (.iload_n 3, 1, 0, 0, 34) := rfl
theorem i_CP_feed_34 : ins m_CP_feed 34 = some (.iload_n 1, 1, 0, 0, 35) := rfl
theorem i_CP_feed_35 : ins m_CP_feed 35 = some (.if_icmp .ge 26, 3, 61, 0, 38) := rfl
theorem i_CP_feed_38 : ins m_CP_feed 38 = some (.aload_n 0, 1, 0, 0, 39) := rfl
theorem i_CP_feed_39 : ins m_CP_feed 39 = some (.getfield 14, 3, 1000, 0, 42) := rfl
theorem i_CP_feed_42 : ins m_CP_feed 42 = some (.iload_n 2, 1, 0, 0, 43) := rfl
theorem i_CP_feed_43 : ins m_CP_feed 43 = some (.bipush 8, 2, 0, 0, 45) := rfl
theorem i_CP_feed_45 : ins m_CP_feed 45 = some (.iload_n 3, 1, 0, 0, 46) := rfl
theorem i_CP_feed_46 : ins m_CP_feed 46 = some (.imul, 1, 0, 0, 47) := rfl
theorem i_CP_feed_47 : ins m_CP_feed 47 = some (.iushr, 1, 0, 0, 48) := rfl
theorem i_CP_feed_48 : ins m_CP_feed 48 = some (.sipush 255, 3, 0, 0, 51) := rfl
theorem i_CP_feed_51 : ins m_CP_feed 51 = some (.iand, 1, 0, 0, 52) := rfl
theorem i_CP_feed_52 : ins m_CP_feed 52 = some (.invokevirtual 49, 3, 63, 1, 55) := rfl
theorem i_CP_feed_55 : ins m_CP_feed 55 = some (.iinc 3 1, 3, 0, 0, 58) := rfl
theorem i_CP_feed_58 : ins m_CP_feed 58 = some (.goto (-25), 3, 33, 0, 61) := rfl
theorem i_CP_feed_61 : ins m_CP_feed 61 = some (.aload_n 0, 1, 0, 0, 62) := rfl
theorem i_CP_feed_62 : ins m_CP_feed 62 = some (.getfield 14, 3, 1000, 0, 65) := rfl
theorem i_CP_feed_65 : ins m_CP_feed 65 = some (.invokevirtual 45, 3, 60, 0, 68) := rfl
theorem i_CP_feed_68 : ins m_CP_feed 68 = some (.ireturn, 1, 0, 0, 69) := rfl
theorem i_CP_grammar_0 : ins m_CP_grammar 0 = some (.new 52, 3, 5, 0, 3) := rfl
theorem i_CP_grammar_3 : ins m_CP_grammar 3 = some (.dup, 1, 0, 0, 4) := rfl
theorem i_CP_grammar_4 : ins m_CP_grammar 4 = some (.aload_n 0, 1, 0, 0, 5) := rfl
theorem i_CP_grammar_5 : ins m_CP_grammar 5 = some (.getfield 14, 3, 1000, 0, 8) := rfl
theorem i_CP_grammar_8 : ins m_CP_grammar 8 = some (.invokespecial 54, 3, 32, 1, 11) := rfl
theorem i_CP_grammar_11 : ins m_CP_grammar 11 = some (.astore_n 1, 1, 0, 0, 12) := rfl
theorem i_CP_grammar_12 : ins m_CP_grammar 12 = some (.aload_n 1, 1, 0, 0, 13) := rfl
theorem i_CP_grammar_13 : ins m_CP_grammar 13 = some (.invokevirtual 57, 3, 33, 0, 16) := rfl
theorem i_CP_grammar_16 : ins m_CP_grammar 16 = some (.astore_n 2, 1, 0, 0, 17) := rfl
theorem i_CP_grammar_17 : ins m_CP_grammar 17 = some (.aload_n 0, 1, 0, 0, 18) := rfl
theorem i_CP_grammar_18 : ins m_CP_grammar 18 = some (.getfield 14, 3, 1000, 0, 21) := rfl
theorem i_CP_grammar_21 : ins m_CP_grammar 21 = some (.iconst 0, 1, 0, 0, 22) := rfl
theorem i_CP_grammar_22 : ins m_CP_grammar 22 = some (.invokevirtual 61, 3, 64, 1, 25) := rfl
theorem i_CP_grammar_25 : ins m_CP_grammar 25 = some (.aload_n 1, 1, 0, 0, 26) := rfl
theorem i_CP_grammar_26 : ins m_CP_grammar 26 = some (.getfield 64, 3, 505, 0, 29) := rfl
theorem i_CP_grammar_29 : ins m_CP_grammar 29 = some (.iconst (-1), 1, 0, 0, 30) := rfl
theorem i_CP_grammar_30 : ins m_CP_grammar 30 = some (.if_icmp .eq 11, 3, 41, 0, 33) := rfl
theorem i_CP_grammar_33 : ins m_CP_grammar 33 = some (.bipush (-100), 2, 0, 0, 35) := rfl
theorem i_CP_grammar_35 : ins m_CP_grammar 35 = some (.aload_n 1, 1, 0, 0, 36) := rfl
theorem i_CP_grammar_36 : ins m_CP_grammar 36 = some (.getfield 64, 3, 505, 0, 39) := rfl
theorem i_CP_grammar_39 : ins m_CP_grammar 39 = some (.isub, 1, 0, 0, 40) := rfl
theorem i_CP_grammar_40 : ins m_CP_grammar 40 = some (.ireturn, 1, 0, 0, 41) := rfl
theorem i_CP_grammar_41 : ins m_CP_grammar 41 = some (.aload_n 0, 1, 0, 0, 42) := rfl
theorem i_CP_grammar_42 : ins m_CP_grammar 42 = some (.aload_n 2, 1, 0, 0, 43) := rfl
theorem i_CP_grammar_43 : ins m_CP_grammar 43 = some (.putfield 41, 3, 1005, 0, 46) := rfl
theorem i_CP_grammar_46 : ins m_CP_grammar 46 = some (.aload_n 0, 1, 0, 0, 47) := rfl
theorem i_CP_grammar_47 : ins m_CP_grammar 47 = some (.getfield 34, 3, 1004, 0, 50) := rfl
theorem i_CP_grammar_50 : ins m_CP_grammar 50 = some (.invokevirtual 68, 3, 12, 0, 53) := rfl
theorem i_CP_grammar_53 : ins m_CP_grammar 53 = some (.aload_n 0, 1, 0, 0, 54) := rfl
theorem i_CP_grammar_54 : ins m_CP_grammar 54 = some (.getfield 41, 3, 1005, 0, 57) := rfl
theorem i_CP_grammar_57 : ins m_CP_grammar 57 = some (.getfield 71, 3, 104, 0, 60) := rfl
theorem i_CP_grammar_60 : ins m_CP_grammar 60 = some (.ireturn, 1, 0, 0, 61) := rfl
theorem i_CP_input_0 : ins m_CP_input 0 = some (.aload_n 0, 1, 0, 0, 1) := rfl
theorem i_CP_input_1 : ins m_CP_input 1 = some (.getfield 18, 3, 1001, 0, 4) := rfl
theorem i_CP_input_4 : ins m_CP_input 4 = some (.astore_n 1, 1, 0, 0, 5) := rfl
theorem i_CP_input_5 : ins m_CP_input 5 = some (.aload_n 0, 1, 0, 0, 6) := rfl
theorem i_CP_input_6 : ins m_CP_input 6 = some (.aload_n 0, 1, 0, 0, 7) := rfl
theorem i_CP_input_7 : ins m_CP_input 7 = some (.getfield 14, 3, 1000, 0, 10) := rfl
theorem i_CP_input_10 : ins m_CP_input 10 = some (.putfield 18, 3, 1001, 0, 13) := rfl
theorem i_CP_input_13 : ins m_CP_input 13 = some (.aload_n 0, 1, 0, 0, 14) := rfl
theorem i_CP_input_14 : ins m_CP_input 14 = some (.aload_n 1, 1, 0, 0, 15) := rfl
theorem i_CP_input_15 : ins m_CP_input 15 = some (.putfield 14, 3, 1000, 0, 18) := rfl
theorem i_CP_input_18 : ins m_CP_input 18 = some (.aload_n 0, 1, 0, 0, 19) := rfl
theorem i_CP_input_19 : ins m_CP_input 19 = some (.getfield 14, 3, 1000, 0, 22) := rfl
theorem i_CP_input_22 : ins m_CP_input 22 = some (.iconst 0, 1, 0, 0, 23) := rfl
theorem i_CP_input_23 : ins m_CP_input 23 = some (.invokevirtual 61, 3, 64, 1, 26) := rfl
theorem i_CP_input_26 : ins m_CP_input 26 = some (.aload_n 0, 1, 0, 0, 27) := rfl
theorem i_CP_input_27 : ins m_CP_input 27 = some (.getfield 34, 3, 1004, 0, 30) := rfl
theorem i_CP_input_30 : ins m_CP_input 30 = some (.invokevirtual 68, 3, 12, 0, 33) := rfl
theorem i_CP_input_33 : ins m_CP_input 33 = some (.aload_n 0, 1, 0, 0, 34) := rfl
theorem i_CP_input_34 : ins m_CP_input 34 = some (.getfield 18, 3, 1001, 0, 37) := rfl
theorem i_CP_input_37 : ins m_CP_input 37 = some (.invokevirtual 45, 3, 60, 0, 40) := rfl
theorem i_CP_input_40 : ins m_CP_input 40 = some (.ireturn, 1, 0, 0, 41) := rfl
theorem i_CP_parse_0 : ins m_CP_parse 0 = some (.aload_n 0, 1, 0, 0, 1) := rfl
theorem i_CP_parse_1 : ins m_CP_parse 1 = some (.getfield 41, 3, 1005, 0, 4) := rfl
theorem i_CP_parse_4 : ins m_CP_parse 4 = some (.iload_n 1, 1, 0, 0, 5) := rfl
theorem i_CP_parse_5 : ins m_CP_parse 5 = some (.invokevirtual 74, 3, 4, 1, 8) := rfl
theorem i_CP_parse_8 : ins m_CP_parse 8 = some (.ifCond .eq 18, 3, 26, 0, 11) := rfl
theorem i_CP_parse_11 : ins m_CP_parse 11 = some (.iload_n 2, 1, 0, 0, 12) := rfl
theorem i_CP_parse_12 : ins m_CP_parse 12 = some (.ifCond .lt 14, 3, 26, 0, 15) := rfl
theorem i_CP_parse_15 : ins m_CP_parse 15 = some (.iload_n 2, 1, 0, 0, 16) := rfl
theorem i_CP_parse_16 : ins m_CP_parse 16 = some (.aload_n 0, 1, 0, 0, 17) := rfl
theorem i_CP_parse_17 : ins m_CP_parse 17 = some (.getfield 18, 3, 1001, 0, 20) := rfl
theorem i_CP_parse_20 : ins m_CP_parse 20 = some (.invokevirtual 45, 3, 60, 0, 23) := rfl
theorem i_CP_parse_23 : ins m_CP_parse 23 = some (.if_icmp .le 6, 3, 29, 0, 26) := rfl
theorem i_CP_parse_26 : ins m_CP_parse 26 = some (.bipush (-2), 2, 0, 0, 28) := rfl
theorem i_CP_parse_28 : ins m_CP_parse 28 = some (.ireturn, 1, 0, 0, 29) := rfl
theorem i_CP_parse_29 : ins m_CP_parse 29 = some (.aload_n 0, 1, 0, 0, 30) := rfl
theorem i_CP_parse_30 : ins m_CP_parse 30 = some (.getfield 27, 3, 1003, 0, 33) := rfl
theorem i_CP_parse_33 : ins m_CP_parse 33 = some (.aload_n 0, 1, 0, 0, 34) := rfl
theorem i_CP_parse_34 : ins m_CP_parse 34 = some (.getfield 41, 3, 1005, 0, 37) := rfl
theorem i_CP_parse_37 : ins m_CP_parse 37 = some (.aload_n 0, 1, 0, 0, 38) := rfl
theorem i_CP_parse_38 : ins m_CP_parse 38 = some (.getfield 18, 3, 1001, 0, 41) := rfl
theorem i_CP_parse_41 : ins m_CP_parse 41 = some (.iload_n 1, 1, 0, 0, 42) := rfl
theorem i_CP_parse_42 : ins m_CP_parse 42 = some (.iload_n 2, 1, 0, 0, 43) := rfl
theorem i_CP_parse_43 : ins m_CP_parse 43 = some (.invokevirtual 78, 3, 67, 4, 46) := rfl
theorem i_CP_parse_46 : ins m_CP_parse 46 = some (.istore_n 3, 1, 0, 0, 47) := rfl
theorem i_CP_parse_47 : ins m_CP_parse 47 = some (.aload_n 0, 1, 0, 0, 48) := rfl
theorem i_CP_parse_48 : ins m_CP_parse 48 = some (.getfield 34, 3, 1004, 0, 51) := rfl
theorem i_CP_parse_51 : ins m_CP_parse 51 = some (.aload_n 0, 1, 0, 0, 52) := rfl
theorem i_CP_parse_52 : ins m_CP_parse 52 = some (.getfield 27, 3, 1003, 0, 55) := rfl
theorem i_CP_parse_55 : ins m_CP_parse 55 = some (.invokevirtual 82, 3, 13, 1, 58) := rfl
theorem i_CP_parse_58 : ins m_CP_parse 58 = some (.iload_n 3, 1, 0, 0, 59) := rfl
theorem i_CP_parse_59 : ins m_CP_parse 59 = some (.bipush (-5), 2, 0, 0, 61) := rfl
theorem i_CP_parse_61 : ins m_CP_parse 61 = some (.if_icmp .ne 18, 3, 79, 0, 64) := rfl
theorem i_CP_parse_64 : ins m_CP_parse 64 = some (.aload_n 0, 1, 0, 0, 65) := rfl
theorem i_CP_parse_65 : ins m_CP_parse 65 = some (.getfield 27, 3, 1003, 0, 68) := rfl
theorem i_CP_parse_68 : ins m_CP_parse 68 = some (.getfield 86, 3, 712, 0, 71) := rfl
theorem i_CP_parse_71 : ins m_CP_parse 71 = some (.ifCond .eq 8, 3, 79, 0, 74) := rfl
theorem i_CP_parse_74 : ins m_CP_parse 74 = some (.bipush (-6), 2, 0, 0, 76) := rfl
theorem i_CP_parse_76 : ins m_CP_parse 76 = some (.goto 4, 3, 80, 0, 79) := rfl
theorem i_CP_parse_79 : ins m_CP_parse 79 = some (.iload_n 3, 1, 0, 0, 80) := rfl
theorem i_CP_parse_80 : ins m_CP_parse 80 = some (.ireturn, 1, 0, 0, 81) := rfl
theorem i_CP_told_0 : ins m_CP_told 0 = some (.iload_n 1, 1, 0, 0, 1) := rfl
theorem i_CP_told_1 : ins m_CP_told 1 = some (.ifCond .lt 8, 3, 9, 0, 4) := rfl
theorem i_CP_told_4 : ins m_CP_told 4 = some (.iload_n 1, 1, 0, 0, 5) := rfl
theorem i_CP_told_5 : ins m_CP_told 5 = some (.iconst 5, 1, 0, 0, 6) := rfl
theorem i_CP_told_6 : ins m_CP_told 6 = some (.if_icmp .le 6, 3, 12, 0, 9) := rfl
theorem i_CP_told_9 : ins m_CP_told 9 = some (.bipush (-2), 2, 0, 0, 11) := rfl
theorem i_CP_told_11 : ins m_CP_told 11 = some (.ireturn, 1, 0, 0, 12) := rfl
theorem i_CP_told_12 : ins m_CP_told 12 = some (.aload_n 0, 1, 0, 0, 13) := rfl
theorem i_CP_told_13 : ins m_CP_told 13 = some (.getfield 34, 3, 1004, 0, 16) := rfl
theorem i_CP_told_16 : ins m_CP_told 16 = some (.getfield 90, 3, 200, 0, 19) := rfl
theorem i_CP_told_19 : ins m_CP_told 19 = some (.ifCond .ne 6, 3, 25, 0, 22) := rfl
theorem i_CP_told_22 : ins m_CP_told 22 = some (.bipush (-3), 2, 0, 0, 24) := rfl
theorem i_CP_told_24 : ins m_CP_told 24 = some (.ireturn, 1, 0, 0, 25) := rfl
theorem i_CP_told_25 : ins m_CP_told 25 = some (.iload_n 1, 1, 0, 0, 26) := rfl
theorem i_CP_told_26 : ins m_CP_told 26 = some (.tableswitch 82 0 4 #[34, 42, 50, 58, 66], 34, 0, 0, 60) := rfl
theorem i_CP_told_60 : ins m_CP_told 60 = some (.aload_n 0, 1, 0, 0, 61) := rfl
theorem i_CP_told_61 : ins m_CP_told 61 = some (.getfield 34, 3, 1004, 0, 64) := rfl
theorem i_CP_told_64 : ins m_CP_told 64 = some (.getfield 93, 3, 201, 0, 67) := rfl
theorem i_CP_told_67 : ins m_CP_told 67 = some (.ireturn, 1, 0, 0, 68) := rfl
theorem i_CP_told_68 : ins m_CP_told 68 = some (.aload_n 0, 1, 0, 0, 69) := rfl
theorem i_CP_told_69 : ins m_CP_told 69 = some (.getfield 34, 3, 1004, 0, 72) := rfl
theorem i_CP_told_72 : ins m_CP_told 72 = some (.getfield 96, 3, 202, 0, 75) := rfl
theorem i_CP_told_75 : ins m_CP_told 75 = some (.ireturn, 1, 0, 0, 76) := rfl
theorem i_CP_told_76 : ins m_CP_told 76 = some (.aload_n 0, 1, 0, 0, 77) := rfl
theorem i_CP_told_77 : ins m_CP_told 77 = some (.getfield 34, 3, 1004, 0, 80) := rfl
theorem i_CP_told_80 : ins m_CP_told 80 = some (.getfield 99, 3, 203, 0, 83) := rfl
theorem i_CP_told_83 : ins m_CP_told 83 = some (.ireturn, 1, 0, 0, 84) := rfl
theorem i_CP_told_84 : ins m_CP_told 84 = some (.aload_n 0, 1, 0, 0, 85) := rfl
theorem i_CP_told_85 : ins m_CP_told 85 = some (.getfield 34, 3, 1004, 0, 88) := rfl
theorem i_CP_told_88 : ins m_CP_told 88 = some (.getfield 102, 3, 204, 0, 91) := rfl
theorem i_CP_told_91 : ins m_CP_told 91 = some (.ireturn, 1, 0, 0, 92) := rfl
theorem i_CP_told_92 : ins m_CP_told 92 = some (.aload_n 0, 1, 0, 0, 93) := rfl
theorem i_CP_told_93 : ins m_CP_told 93 = some (.getfield 34, 3, 1004, 0, 96) := rfl
theorem i_CP_told_96 : ins m_CP_told 96 = some (.getfield 105, 3, 206, 0, 99) := rfl
theorem i_CP_told_99 : ins m_CP_told 99 = some (.ifCond .eq 7, 3, 106, 0, 102) := rfl
theorem i_CP_told_102 : ins m_CP_told 102 = some (.iconst 1, 1, 0, 0, 103) := rfl
theorem i_CP_told_103 : ins m_CP_told 103 = some (.goto 4, 3, 107, 0, 106) := rfl
theorem i_CP_told_106 : ins m_CP_told 106 = some (.iconst 0, 1, 0, 0, 107) := rfl
theorem i_CP_told_107 : ins m_CP_told 107 = some (.ireturn, 1, 0, 0, 108) := rfl
theorem i_CP_told_108 : ins m_CP_told 108 = some (.aload_n 0, 1, 0, 0, 109) := rfl
theorem i_CP_told_109 : ins m_CP_told 109 = some (.getfield 34, 3, 1004, 0, 112) := rfl
theorem i_CP_told_112 : ins m_CP_told 112 = some (.invokevirtual 106, 3, 15, 0, 115) := rfl
theorem i_CP_told_115 : ins m_CP_told 115 = some (.ireturn, 1, 0, 0, 116) := rfl
theorem i_CP_node_0 : ins m_CP_node 0 = some (.iload_n 2, 1, 0, 0, 1) := rfl
theorem i_CP_node_1 : ins m_CP_node 1 = some (.ifCond .lt 8, 3, 9, 0, 4) := rfl
theorem i_CP_node_4 : ins m_CP_node 4 = some (.iload_n 2, 1, 0, 0, 5) := rfl
theorem i_CP_node_5 : ins m_CP_node 5 = some (.iconst 2, 1, 0, 0, 6) := rfl
theorem i_CP_node_6 : ins m_CP_node 6 = some (.if_icmp .le 6, 3, 12, 0, 9) := rfl
theorem i_CP_node_9 : ins m_CP_node 9 = some (.bipush (-2), 2, 0, 0, 11) := rfl
theorem i_CP_node_11 : ins m_CP_node 11 = some (.ireturn, 1, 0, 0, 12) := rfl
theorem i_CP_node_12 : ins m_CP_node 12 = some (.aload_n 0, 1, 0, 0, 13) := rfl
theorem i_CP_node_13 : ins m_CP_node 13 = some (.getfield 34, 3, 1004, 0, 16) := rfl
theorem i_CP_node_16 : ins m_CP_node 16 = some (.getfield 90, 3, 200, 0, 19) := rfl
theorem i_CP_node_19 : ins m_CP_node 19 = some (.ifCond .eq 15, 3, 34, 0, 22) := rfl
theorem i_CP_node_22 : ins m_CP_node 22 = some (.aload_n 0, 1, 0, 0, 23) := rfl
theorem i_CP_node_23 : ins m_CP_node 23 = some (.getfield 34, 3, 1004, 0, 26) := rfl
theorem i_CP_node_26 : ins m_CP_node 26 = some (.iload_n 1, 1, 0, 0, 27) := rfl
theorem i_CP_node_27 : ins m_CP_node 27 = some (.iload_n 2, 1, 0, 0, 28) := rfl
theorem i_CP_node_28 : ins m_CP_node 28 = some (.invokevirtual 109, 3, 16, 2, 31) := rfl
theorem i_CP_node_31 : ins m_CP_node 31 = some (.goto 5, 3, 36, 0, 34) := rfl
theorem i_CP_node_34 : ins m_CP_node 34 = some (.bipush (-3), 2, 0, 0, 36) := rfl
theorem i_CP_node_36 : ins m_CP_node 36 = some (.ireturn, 1, 0, 0, 37) := rfl
theorem i_CP_worth_0 : ins m_CP_worth 0 = some (.aload_n 0, 1, 0, 0, 1) := rfl
theorem i_CP_worth_1 : ins m_CP_worth 1 = some (.getfield 34, 3, 1004, 0, 4) := rfl
theorem i_CP_worth_4 : ins m_CP_worth 4 = some (.getfield 90, 3, 200, 0, 7) := rfl
theorem i_CP_worth_7 : ins m_CP_worth 7 = some (.ifCond .eq 13, 3, 20, 0, 10) := rfl
theorem i_CP_worth_10 : ins m_CP_worth 10 = some (.aload_n 0, 1, 0, 0, 11) := rfl
theorem i_CP_worth_11 : ins m_CP_worth 11 = some (.getfield 34, 3, 1004, 0, 14) := rfl
theorem i_CP_worth_14 : ins m_CP_worth 14 = some (.getfield 113, 3, 205, 0, 17) := rfl
theorem i_CP_worth_17 : ins m_CP_worth 17 = some (.goto 5, 3, 22, 0, 20) := rfl
theorem i_CP_worth_20 : ins m_CP_worth 20 = some (.bipush (-3), 2, 0, 0, 22) := rfl
theorem i_CP_worth_22 : ins m_CP_worth 22 = some (.ireturn, 1, 0, 0, 23) := rfl
theorem i_CP_text_0 : ins m_CP_text 0 = some (.aload_n 0, 1, 0, 0, 1) := rfl
theorem i_CP_text_1 : ins m_CP_text 1 = some (.getfield 34, 3, 1004, 0, 4) := rfl
theorem i_CP_text_4 : ins m_CP_text 4 = some (.getfield 90, 3, 200, 0, 7) := rfl
theorem i_CP_text_7 : ins m_CP_text 7 = some (.ifCond .eq 14, 3, 21, 0, 10) := rfl
theorem i_CP_text_10 : ins m_CP_text 10 = some (.aload_n 0, 1, 0, 0, 11) := rfl
theorem i_CP_text_11 : ins m_CP_text 11 = some (.getfield 34, 3, 1004, 0, 14) := rfl
theorem i_CP_text_14 : ins m_CP_text 14 = some (.iload_n 1, 1, 0, 0, 15) := rfl
theorem i_CP_text_15 : ins m_CP_text 15 = some (.invokevirtual 116, 3, 17, 1, 18) := rfl
theorem i_CP_text_18 : ins m_CP_text 18 = some (.goto 5, 3, 23, 0, 21) := rfl
theorem i_CP_text_21 : ins m_CP_text 21 = some (.bipush (-3), 2, 0, 0, 23) := rfl
theorem i_CP_text_23 : ins m_CP_text 23 = some (.ireturn, 1, 0, 0, 24) := rfl
theorem i_CP_rule_0 : ins m_CP_rule 0 = some (.iload_n 1, 1, 0, 0, 1) := rfl
theorem i_CP_rule_1 : ins m_CP_rule 1 = some (.ifCond .lt 18, 3, 19, 0, 4) := rfl
theorem i_CP_rule_4 : ins m_CP_rule 4 = some (.iload_n 1, 1, 0, 0, 5) := rfl
theorem i_CP_rule_5 : ins m_CP_rule 5 = some (.bipush 8, 2, 0, 0, 7) := rfl
theorem i_CP_rule_7 : ins m_CP_rule 7 = some (.if_icmp .ge 12, 3, 19, 0, 10) := rfl
theorem i_CP_rule_10 : ins m_CP_rule 10 = some (.iload_n 2, 1, 0, 0, 11) := rfl
theorem i_CP_rule_11 : ins m_CP_rule 11 = some (.ifCond .lt 8, 3, 19, 0, 14) := rfl
theorem i_CP_rule_14 : ins m_CP_rule 14 = some (.iload_n 2, 1, 0, 0, 15) := rfl
theorem i_CP_rule_15 : ins m_CP_rule 15 = some (.iconst 3, 1, 0, 0, 16) := rfl
theorem i_CP_rule_16 : ins m_CP_rule 16 = some (.if_icmp .le 6, 3, 22, 0, 19) := rfl
theorem i_CP_rule_19 : ins m_CP_rule 19 = some (.bipush (-2), 2, 0, 0, 21) := rfl
theorem i_CP_rule_21 : ins m_CP_rule 21 = some (.ireturn, 1, 0, 0, 22) := rfl
theorem i_CP_rule_22 : ins m_CP_rule 22 = some (.aload_n 0, 1, 0, 0, 23) := rfl
theorem i_CP_rule_23 : ins m_CP_rule 23 = some (.getfield 41, 3, 1005, 0, 26) := rfl
theorem i_CP_rule_26 : ins m_CP_rule 26 = some (.iload_n 1, 1, 0, 0, 27) := rfl
theorem i_CP_rule_27 : ins m_CP_rule 27 = some (.invokevirtual 74, 3, 4, 1, 30) := rfl
theorem i_CP_rule_30 : ins m_CP_rule 30 = some (.istore_n 3, 1, 0, 0, 31) := rfl
theorem i_CP_rule_31 : ins m_CP_rule 31 = some (.iload_n 2, 1, 0, 0, 32) := rfl
theorem i_CP_rule_32 : ins m_CP_rule 32 = some (.ifCond .ne 13, 3, 45, 0, 35) := rfl
theorem i_CP_rule_35 : ins m_CP_rule 35 = some (.iload_n 3, 1, 0, 0, 36) := rfl
theorem i_CP_rule_36 : ins m_CP_rule 36 = some (.ifCond .eq 7, 3, 43, 0, 39) := rfl
theorem i_CP_rule_39 : ins m_CP_rule 39 = some (.iconst 1, 1, 0, 0, 40) := rfl
theorem i_CP_rule_40 : ins m_CP_rule 40 = some (.goto 4, 3, 44, 0, 43) := rfl
theorem i_CP_rule_43 : ins m_CP_rule 43 = some (.iconst 0, 1, 0, 0, 44) := rfl
theorem i_CP_rule_44 : ins m_CP_rule 44 = some (.ireturn, 1, 0, 0, 45) := rfl
theorem i_CP_rule_45 : ins m_CP_rule 45 = some (.iload_n 3, 1, 0, 0, 46) := rfl
theorem i_CP_rule_46 : ins m_CP_rule 46 = some (.ifCond .ne 5, 3, 51, 0, 49) := rfl
theorem i_CP_rule_49 : ins m_CP_rule 49 = some (.iconst (-1), 1, 0, 0, 50) := rfl
theorem i_CP_rule_50 : ins m_CP_rule 50 = some (.ireturn, 1, 0, 0, 51) := rfl
theorem i_CP_rule_51 : ins m_CP_rule 51 = some (.iload_n 2, 1, 0, 0, 52) := rfl
theorem i_CP_rule_52 : ins m_CP_rule 52 = some (.iconst 3, 1, 0, 0, 53) := rfl
theorem i_CP_rule_53 : ins m_CP_rule 53 = some (.if_icmp .ne 12, 3, 65, 0, 56) := rfl
theorem i_CP_rule_56 : ins m_CP_rule 56 = some (.aload_n 0, 1, 0, 0, 57) := rfl
theorem i_CP_rule_57 : ins m_CP_rule 57 = some (.getfield 41, 3, 1005, 0, 60) := rfl
theorem i_CP_rule_60 : ins m_CP_rule 60 = some (.iload_n 1, 1, 0, 0, 61) := rfl
theorem i_CP_rule_61 : ins m_CP_rule 61 = some (.invokevirtual 120, 3, 6, 1, 64) := rfl
theorem i_CP_rule_64 : ins m_CP_rule 64 = some (.ireturn, 1, 0, 0, 65) := rfl
theorem i_CP_rule_65 : ins m_CP_rule 65 = some (.iload_n 2, 1, 0, 0, 66) := rfl
theorem i_CP_rule_66 : ins m_CP_rule 66 = some (.iconst 1, 1, 0, 0, 67) := rfl
theorem i_CP_rule_67 : ins m_CP_rule 67 = some (.if_icmp .ne 13, 3, 80, 0, 70) := rfl
theorem i_CP_rule_70 : ins m_CP_rule 70 = some (.aload_n 0, 1, 0, 0, 71) := rfl
theorem i_CP_rule_71 : ins m_CP_rule 71 = some (.getfield 41, 3, 1005, 0, 74) := rfl
theorem i_CP_rule_74 : ins m_CP_rule 74 = some (.getfield 123, 3, 106, 0, 77) := rfl
theorem i_CP_rule_77 : ins m_CP_rule 77 = some (.goto 10, 3, 87, 0, 80) := rfl
theorem i_CP_rule_80 : ins m_CP_rule 80 = some (.aload_n 0, 1, 0, 0, 81) := rfl
theorem i_CP_rule_81 : ins m_CP_rule 81 = some (.getfield 41, 3, 1005, 0, 84) := rfl
theorem i_CP_rule_84 : ins m_CP_rule 84 = some (.getfield 126, 3, 107, 0, 87) := rfl
theorem i_CP_rule_87 : ins m_CP_rule 87 = some (.iload_n 1, 1, 0, 0, 88) := rfl
theorem i_CP_rule_88 : ins m_CP_rule 88 = some (.iushr, 1, 0, 0, 89) := rfl
theorem i_CP_rule_89 : ins m_CP_rule 89 = some (.iconst 1, 1, 0, 0, 90) := rfl
theorem i_CP_rule_90 : ins m_CP_rule 90 = some (.iand, 1, 0, 0, 91) := rfl
theorem i_CP_rule_91 : ins m_CP_rule 91 = some (.ireturn, 1, 0, 0, 92) := rfl
theorem i_CP_atom_0 : ins m_CP_atom 0 = some (.iload_n 2, 1, 0, 0, 1) := rfl
theorem i_CP_atom_1 : ins m_CP_atom 1 = some (.ifCond .lt 8, 3, 9, 0, 4) := rfl
theorem i_CP_atom_4 : ins m_CP_atom 4 = some (.iload_n 2, 1, 0, 0, 5) := rfl
theorem i_CP_atom_5 : ins m_CP_atom 5 = some (.iconst 3, 1, 0, 0, 6) := rfl
theorem i_CP_atom_6 : ins m_CP_atom 6 = some (.if_icmp .le 6, 3, 12, 0, 9) := rfl
theorem i_CP_atom_9 : ins m_CP_atom 9 = some (.bipush (-2), 2, 0, 0, 11) := rfl
theorem i_CP_atom_11 : ins m_CP_atom 11 = some (.ireturn, 1, 0, 0, 12) := rfl
theorem i_CP_atom_12 : ins m_CP_atom 12 = some (.aload_n 0, 1, 0, 0, 13) := rfl
theorem i_CP_atom_13 : ins m_CP_atom 13 = some (.getfield 41, 3, 1005, 0, 16) := rfl
theorem i_CP_atom_16 : ins m_CP_atom 16 = some (.iload_n 1, 1, 0, 0, 17) := rfl
theorem i_CP_atom_17 : ins m_CP_atom 17 = some (.invokevirtual 129, 3, 7, 1, 20) := rfl
theorem i_CP_atom_20 : ins m_CP_atom 20 = some (.astore_n 3, 1, 0, 0, 21) := rfl
theorem i_CP_atom_21 : ins m_CP_atom 21 = some (.aload_n 3, 1, 0, 0, 22) := rfl
theorem i_CP_atom_22 : ins m_CP_atom 22 = some (.ifnonnull 5, 3, 27, 0, 25) := rfl
theorem i_CP_atom_25 : ins m_CP_atom 25 = some (.iconst (-1), 1, 0, 0, 26) := rfl
theorem i_CP_atom_26 : ins m_CP_atom 26 = some (.ireturn, 1, 0, 0, 27) := rfl
theorem i_CP_atom_27 : ins m_CP_atom 27 = some (.iload_n 2, 1, 0, 0, 28) := rfl
theorem i_CP_atom_28 : ins m_CP_atom 28 = some (.tableswitch 43 0 2 #[28, 33, 38], 28, 0, 0, 56) := rfl
theorem i_CP_atom_56 : ins m_CP_atom 56 = some (.aload_n 3, 1, 0, 0, 57) := rfl
theorem i_CP_atom_57 : ins m_CP_atom 57 = some (.getfield 133, 3, 1, 0, 60) := rfl
theorem i_CP_atom_60 : ins m_CP_atom 60 = some (.ireturn, 1, 0, 0, 61) := rfl
theorem i_CP_atom_61 : ins m_CP_atom 61 = some (.aload_n 3, 1, 0, 0, 62) := rfl
theorem i_CP_atom_62 : ins m_CP_atom 62 = some (.getfield 138, 3, 0, 0, 65) := rfl
theorem i_CP_atom_65 : ins m_CP_atom 65 = some (.ireturn, 1, 0, 0, 66) := rfl
theorem i_CP_atom_66 : ins m_CP_atom 66 = some (.aload_n 3, 1, 0, 0, 67) := rfl
theorem i_CP_atom_67 : ins m_CP_atom 67 = some (.getfield 141, 3, 3, 0, 70) := rfl
theorem i_CP_atom_70 : ins m_CP_atom 70 = some (.ireturn, 1, 0, 0, 71) := rfl
theorem i_CP_atom_71 : ins m_CP_atom 71 = some (.aload_n 3, 1, 0, 0, 72) := rfl
theorem i_CP_atom_72 : ins m_CP_atom 72 = some (.getfield 144, 3, 4, 0, 75) := rfl
theorem i_CP_atom_75 : ins m_CP_atom 75 = some (.ireturn, 1, 0, 0, 76) := rfl
theorem i_CP_drawn_0 : ins m_CP_drawn 0 = some (.aload_n 0, 1, 0, 0, 1) := rfl
theorem i_CP_drawn_1 : ins m_CP_drawn 1 = some (.getfield 41, 3, 1005, 0, 4) := rfl
theorem i_CP_drawn_4 : ins m_CP_drawn 4 = some (.iload_n 1, 1, 0, 0, 5) := rfl
theorem i_CP_drawn_5 : ins m_CP_drawn 5 = some (.invokevirtual 74, 3, 4, 1, 8) := rfl
theorem i_CP_drawn_8 : ins m_CP_drawn 8 = some (.ifCond .eq 27, 3, 35, 0, 11) := rfl
theorem i_CP_drawn_11 : ins m_CP_drawn 11 = some (.iload_n 3, 1, 0, 0, 12) := rfl
theorem i_CP_drawn_12 : ins m_CP_drawn 12 = some (.iconst 1, 1, 0, 0, 13) := rfl
theorem i_CP_drawn_13 : ins m_CP_drawn 13 = some (.if_icmp .lt 22, 3, 35, 0, 16) := rfl
theorem i_CP_drawn_16 : ins m_CP_drawn 16 = some (.iload_n 3, 1, 0, 0, 17) := rfl
theorem i_CP_drawn_17 : ins m_CP_drawn 17 = some (.bipush 20, 2, 0, 0, 19) := rfl
theorem i_CP_drawn_19 : ins m_CP_drawn 19 = some (.if_icmp .gt 16, 3, 35, 0, 22) := rfl
theorem i_CP_drawn_22 : ins m_CP_drawn 22 = some (.iload 4, 2, 0, 0, 24) := rfl
theorem i_CP_drawn_24 : ins m_CP_drawn 24 = some (.iconst 1, 1, 0, 0, 25) := rfl
theorem i_CP_drawn_25 : ins m_CP_drawn 25 = some (.if_icmp .lt 10, 3, 35, 0, 28) := rfl
theorem i_CP_drawn_28 : ins m_CP_drawn 28 = some (.iload 4, 2, 0, 0, 30) := rfl
theorem i_CP_drawn_30 : ins m_CP_drawn 30 = some (.bipush 20, 2, 0, 0, 32) := rfl
theorem i_CP_drawn_32 : ins m_CP_drawn 32 = some (.if_icmp .le 6, 3, 38, 0, 35) := rfl
theorem i_CP_drawn_35 : ins m_CP_drawn 35 = some (.bipush (-2), 2, 0, 0, 37) := rfl
theorem i_CP_drawn_37 : ins m_CP_drawn 37 = some (.ireturn, 1, 0, 0, 38) := rfl
theorem i_CP_drawn_38 : ins m_CP_drawn 38 = some (.iload_n 2, 1, 0, 0, 39) := rfl
theorem i_CP_drawn_39 : ins m_CP_drawn 39 = some (.istore 5, 2, 0, 0, 41) := rfl
theorem i_CP_drawn_41 : ins m_CP_drawn 41 = some (.iconst 0, 1, 0, 0, 42) := rfl
theorem i_CP_drawn_42 : ins m_CP_drawn 42 = some (.istore 6, 2, 0, 0, 44) := rfl
theorem i_CP_drawn_44 : ins m_CP_drawn 44 = some (.iconst 0, 1, 0, 0, 45) := rfl
theorem i_CP_drawn_45 : ins m_CP_drawn 45 = some (.istore 7, 2, 0, 0, 47) := rfl
theorem i_CP_drawn_47 : ins m_CP_drawn 47 = some (.iload 7, 2, 0, 0, 49) := rfl
theorem i_CP_drawn_49 : ins m_CP_drawn 49 = some (.iload 4, 2, 0, 0, 51) := rfl
theorem i_CP_drawn_51 : ins m_CP_drawn 51 = some (.if_icmp .ge 86, 3, 137, 0, 54) := rfl
theorem i_CP_drawn_54 : ins m_CP_drawn 54 = some (.aload_n 0, 1, 0, 0, 55) := rfl
theorem i_CP_drawn_55 : ins m_CP_drawn 55 = some (.getfield 21, 3, 1002, 0, 58) := rfl
theorem i_CP_drawn_58 : ins m_CP_drawn 58 = some (.iconst 0, 1, 0, 0, 59) := rfl
theorem i_CP_drawn_59 : ins m_CP_drawn 59 = some (.invokevirtual 61, 3, 64, 1, 62) := rfl
theorem i_CP_drawn_62 : ins m_CP_drawn 62 = some (.iconst 0, 1, 0, 0, 63) := rfl
theorem i_CP_drawn_63 : ins m_CP_drawn 63 = some (.istore 8, 2, 0, 0, 65) := rfl
theorem i_CP_drawn_65 : ins m_CP_drawn 65 = some (.iload 8, 2, 0, 0, 67) := rfl
theorem i_CP_drawn_67 : ins m_CP_drawn 67 = some (.iload_n 3, 1, 0, 0, 68) := rfl
theorem i_CP_drawn_68 : ins m_CP_drawn 68 = some (.if_icmp .ge 39, 3, 107, 0, 71) := rfl
theorem i_CP_drawn_71 : ins m_CP_drawn 71 = some (.iload 5, 2, 0, 0, 73) := rfl
theorem i_CP_drawn_73 : ins m_CP_drawn 73 = some (.ldc 147, 2, 1103515245, 0, 75) := rfl
theorem i_CP_drawn_75 : ins m_CP_drawn 75 = some (.imul, 1, 0, 0, 76) := rfl
theorem i_CP_drawn_76 : ins m_CP_drawn 76 = some (.sipush 12345, 3, 0, 0, 79) := rfl
theorem i_CP_drawn_79 : ins m_CP_drawn 79 = some (.iadd, 1, 0, 0, 80) := rfl
theorem i_CP_drawn_80 : ins m_CP_drawn 80 = some (.istore 5, 2, 0, 0, 82) := rfl
theorem i_CP_drawn_82 : ins m_CP_drawn 82 = some (.aload_n 0, 1, 0, 0, 83) := rfl
theorem i_CP_drawn_83 : ins m_CP_drawn 83 = some (.getfield 21, 3, 1002, 0, 86) := rfl
theorem i_CP_drawn_86 : ins m_CP_drawn 86 = some (.aload_n 0, 1, 0, 0, 87) := rfl
theorem i_CP_drawn_87 : ins m_CP_drawn 87 = some (.getfield 41, 3, 1005, 0, 90) := rfl
theorem i_CP_drawn_90 : ins m_CP_drawn 90 = some (.iload 5, 2, 0, 0, 92) := rfl
theorem i_CP_drawn_92 : ins m_CP_drawn 92 = some (.bipush 9, 2, 0, 0, 94) := rfl
theorem i_CP_drawn_94 : ins m_CP_drawn 94 = some (.iushr, 1, 0, 0, 95) := rfl
theorem i_CP_drawn_95 : ins m_CP_drawn 95 = some (.invokevirtual 148, 3, 10, 1, 98) := rfl
theorem i_CP_drawn_98 : ins m_CP_drawn 98 = some (.invokevirtual 49, 3, 63, 1, 101) := rfl
theorem i_CP_drawn_101 : ins m_CP_drawn 101 = some (.iinc 8 1, 3, 0, 0, 104) := rfl
theorem i_CP_drawn_104 : ins m_CP_drawn 104 = some (.goto (-39), 3, 65, 0, 107) := rfl
theorem i_CP_drawn_107 : ins m_CP_drawn 107 = some (.aload_n 0, 1, 0, 0, 108) := rfl
theorem i_CP_drawn_108 : ins m_CP_drawn 108 = some (.getfield 27, 3, 1003, 0, 111) := rfl
theorem i_CP_drawn_111 : ins m_CP_drawn 111 = some (.aload_n 0, 1, 0, 0, 112) := rfl
theorem i_CP_drawn_112 : ins m_CP_drawn 112 = some (.getfield 41, 3, 1005, 0, 115) := rfl
theorem i_CP_drawn_115 : ins m_CP_drawn 115 = some (.aload_n 0, 1, 0, 0, 116) := rfl
theorem i_CP_drawn_116 : ins m_CP_drawn 116 = some (.getfield 21, 3, 1002, 0, 119) := rfl
theorem i_CP_drawn_119 : ins m_CP_drawn 119 = some (.iload_n 1, 1, 0, 0, 120) := rfl
theorem i_CP_drawn_120 : ins m_CP_drawn 120 = some (.iconst 0, 1, 0, 0, 121) := rfl
theorem i_CP_drawn_121 : ins m_CP_drawn 121 = some (.invokevirtual 78, 3, 67, 4, 124) := rfl
theorem i_CP_drawn_124 : ins m_CP_drawn 124 = some (.iload_n 3, 1, 0, 0, 125) := rfl
theorem i_CP_drawn_125 : ins m_CP_drawn 125 = some (.if_icmp .ne 6, 3, 131, 0, 128) := rfl
theorem i_CP_drawn_128 : ins m_CP_drawn 128 = some (.iinc 6 1, 3, 0, 0, 131) := rfl
theorem i_CP_drawn_131 : ins m_CP_drawn 131 = some (.iinc 7 1, 3, 0, 0, 134) := rfl
theorem i_CP_drawn_134 : ins m_CP_drawn 134 = some (.goto (-87), 3, 47, 0, 137) := rfl
theorem i_CP_drawn_137 : ins m_CP_drawn 137 = some (.iload 6, 2, 0, 0, 139) := rfl
theorem i_CP_drawn_139 : ins m_CP_drawn 139 = some (.ireturn, 1, 0, 0, 140) := rfl
theorem i_CP_count_0 : ins m_CP_count 0 = some (.iload_n 1, 1, 0, 0, 1) := rfl
theorem i_CP_count_1 : ins m_CP_count 1 = some (.tableswitch 75 0 4 #[35, 43, 51, 59, 67], 35, 0, 0, 36) := rfl
theorem i_CP_count_36 : ins m_CP_count 36 = some (.aload_n 0, 1, 0, 0, 37) := rfl
theorem i_CP_count_37 : ins m_CP_count 37 = some (.getfield 41, 3, 1005, 0, 40) := rfl
theorem i_CP_count_40 : ins m_CP_count 40 = some (.getfield 71, 3, 104, 0, 43) := rfl
theorem i_CP_count_43 : ins m_CP_count 43 = some (.ireturn, 1, 0, 0, 44) := rfl
theorem i_CP_count_44 : ins m_CP_count 44 = some (.aload_n 0, 1, 0, 0, 45) := rfl
theorem i_CP_count_45 : ins m_CP_count 45 = some (.getfield 41, 3, 1005, 0, 48) := rfl
theorem i_CP_count_48 : ins m_CP_count 48 = some (.getfield 151, 3, 105, 0, 51) := rfl
theorem i_CP_count_51 : ins m_CP_count 51 = some (.ireturn, 1, 0, 0, 52) := rfl
theorem i_CP_count_52 : ins m_CP_count 52 = some (.aload_n 0, 1, 0, 0, 53) := rfl
theorem i_CP_count_53 : ins m_CP_count 53 = some (.getfield 18, 3, 1001, 0, 56) := rfl
theorem i_CP_count_56 : ins m_CP_count 56 = some (.invokevirtual 45, 3, 60, 0, 59) := rfl
theorem i_CP_count_59 : ins m_CP_count 59 = some (.ireturn, 1, 0, 0, 60) := rfl
theorem i_CP_count_60 : ins m_CP_count 60 = some (.aload_n 0, 1, 0, 0, 61) := rfl
theorem i_CP_count_61 : ins m_CP_count 61 = some (.getfield 14, 3, 1000, 0, 64) := rfl
theorem i_CP_count_64 : ins m_CP_count 64 = some (.invokevirtual 45, 3, 60, 0, 67) := rfl
theorem i_CP_count_67 : ins m_CP_count 67 = some (.ireturn, 1, 0, 0, 68) := rfl
theorem i_CP_count_68 : ins m_CP_count 68 = some (.aload_n 0, 1, 0, 0, 69) := rfl
theorem i_CP_count_69 : ins m_CP_count 69 = some (.getfield 27, 3, 1003, 0, 72) := rfl
theorem i_CP_count_72 : ins m_CP_count 72 = some (.getfield 154, 3, 708, 0, 75) := rfl
theorem i_CP_count_75 : ins m_CP_count 75 = some (.ireturn, 1, 0, 0, 76) := rfl
theorem i_CP_count_76 : ins m_CP_count 76 = some (.bipush (-2), 2, 0, 0, 78) := rfl
theorem i_CP_count_78 : ins m_CP_count 78 = some (.ireturn, 1, 0, 0, 79) := rfl
theorem i_M_init_0 : ins m_M_init 0 = some (.aload_n 0, 1, 0, 0, 1) := rfl
theorem i_M_init_1 : ins m_M_init 1 = some (.invokespecial 1, 3, 9000, 0, 4) := rfl
theorem i_M_init_4 : ins m_M_init 4 = some (.aload_n 0, 1, 0, 0, 5) := rfl
theorem i_M_init_5 : ins m_M_init 5 = some (.sipush 240, 3, 0, 0, 8) := rfl
theorem i_M_init_8 : ins m_M_init 8 = some (.newarray .int, 2, 13, 0, 10) := rfl
theorem i_M_init_10 : ins m_M_init 10 = some (.putfield 9, 3, 1100, 0, 13) := rfl
theorem i_M_init_13 : ins m_M_init 13 = some (.aload_n 0, 1, 0, 0, 14) := rfl
theorem i_M_init_14 : ins m_M_init 14 = some (.sipush 240, 3, 0, 0, 17) := rfl
theorem i_M_init_17 : ins m_M_init 17 = some (.newarray .int, 2, 13, 0, 19) := rfl
theorem i_M_init_19 : ins m_M_init 19 = some (.putfield 13, 3, 1101, 0, 22) := rfl
theorem i_M_init_22 : ins m_M_init 22 = some (.aload_n 0, 1, 0, 0, 23) := rfl
theorem i_M_init_23 : ins m_M_init 23 = some (.sipush 240, 3, 0, 0, 26) := rfl
theorem i_M_init_26 : ins m_M_init 26 = some (.newarray .int, 2, 13, 0, 28) := rfl
theorem i_M_init_28 : ins m_M_init 28 = some (.putfield 16, 3, 1102, 0, 31) := rfl
theorem i_M_init_31 : ins m_M_init 31 = some (.aload_n 0, 1, 0, 0, 32) := rfl
theorem i_M_init_32 : ins m_M_init 32 = some (.bipush 8, 2, 0, 0, 34) := rfl
theorem i_M_init_34 : ins m_M_init 34 = some (.newarray .int, 2, 13, 0, 36) := rfl
theorem i_M_init_36 : ins m_M_init 36 = some (.putfield 19, 3, 1107, 0, 39) := rfl
theorem i_M_init_39 : ins m_M_init 39 = some (.aload_n 0, 1, 0, 0, 40) := rfl
theorem i_M_init_40 : ins m_M_init 40 = some (.sipush 260, 3, 0, 0, 43) := rfl
theorem i_M_init_43 : ins m_M_init 43 = some (.newarray .int, 2, 13, 0, 45) := rfl
theorem i_M_init_45 : ins m_M_init 45 = some (.putfield 22, 3, 1108, 0, 48) := rfl
theorem i_M_init_48 : ins m_M_init 48 = some (.aload_n 0, 1, 0, 0, 49) := rfl
theorem i_M_init_49 : ins m_M_init 49 = some (.sipush 260, 3, 0, 0, 52) := rfl
theorem i_M_init_52 : ins m_M_init 52 = some (.newarray .int, 2, 13, 0, 54) := rfl
theorem i_M_init_54 : ins m_M_init 54 = some (.putfield 25, 3, 1109, 0, 57) := rfl
theorem i_M_init_57 : ins m_M_init 57 = some (.aload_n 0, 1, 0, 0, 58) := rfl
theorem i_M_init_58 : ins m_M_init 58 = some (.sipush 260, 3, 0, 0, 61) := rfl
theorem i_M_init_61 : ins m_M_init 61 = some (.newarray .int, 2, 13, 0, 63) := rfl
theorem i_M_init_63 : ins m_M_init 63 = some (.putfield 28, 3, 1110, 0, 66) := rfl
theorem i_M_init_66 : ins m_M_init 66 = some (.aload_n 0, 1, 0, 0, 67) := rfl
theorem i_M_init_67 : ins m_M_init 67 = some (.sipush 260, 3, 0, 0, 70) := rfl
theorem i_M_init_70 : ins m_M_init 70 = some (.newarray .int, 2, 13, 0, 72) := rfl
theorem i_M_init_72 : ins m_M_init 72 = some (.putfield 31, 3, 1111, 0, 75) := rfl
theorem i_M_init_75 : ins m_M_init 75 = some (.aload_n 0, 1, 0, 0, 76) := rfl
theorem i_M_init_76 : ins m_M_init 76 = some (.sipush 260, 3, 0, 0, 79) := rfl
theorem i_M_init_79 : ins m_M_init 79 = some (.newarray .int, 2, 13, 0, 81) := rfl
theorem i_M_init_81 : ins m_M_init 81 = some (.putfield 34, 3, 1112, 0, 84) := rfl
theorem i_M_init_84 : ins m_M_init 84 = some (.aload_n 0, 1, 0, 0, 85) := rfl
theorem i_M_init_85 : ins m_M_init 85 = some (.sipush 260, 3, 0, 0, 88) := rfl
theorem i_M_init_88 : ins m_M_init 88 = some (.newarray .int, 2, 13, 0, 90) := rfl
theorem i_M_init_90 : ins m_M_init 90 = some (.putfield 37, 3, 1113, 0, 93) := rfl
theorem i_M_init_93 : ins m_M_init 93 = some (.aload_n 0, 1, 0, 0, 94) := rfl
theorem i_M_init_94 : ins m_M_init 94 = some (.sipush 260, 3, 0, 0, 97) := rfl
theorem i_M_init_97 : ins m_M_init 97 = some (.newarray .int, 2, 13, 0, 99) := rfl
theorem i_M_init_99 : ins m_M_init 99 = some (.putfield 40, 3, 1114, 0, 102) := rfl
theorem i_M_init_102 : ins m_M_init 102 = some (.aload_n 0, 1, 0, 0, 103) := rfl
theorem i_M_init_103 : ins m_M_init 103 = some (.sipush 260, 3, 0, 0, 106) := rfl
theorem i_M_init_106 : ins m_M_init 106 = some (.newarray .int, 2, 13, 0, 108) := rfl
theorem i_M_init_108 : ins m_M_init 108 = some (.putfield 43, 3, 1115, 0, 111) := rfl
theorem i_M_init_111 : ins m_M_init 111 = some (.aload_n 0, 1, 0, 0, 112) := rfl
theorem i_M_init_112 : ins m_M_init 112 = some (.sipush 260, 3, 0, 0, 115) := rfl
theorem i_M_init_115 : ins m_M_init 115 = some (.newarray .int, 2, 13, 0, 117) := rfl
theorem i_M_init_117 : ins m_M_init 117 = some (.putfield 46, 3, 1116, 0, 120) := rfl
theorem i_M_init_120 : ins m_M_init 120 = some (.aload_n 0, 1, 0, 0, 121) := rfl
theorem i_M_init_121 : ins m_M_init 121 = some (.sipush 260, 3, 0, 0, 124) := rfl
theorem i_M_init_124 : ins m_M_init 124 = some (.newarray .int, 2, 13, 0, 126) := rfl
theorem i_M_init_126 : ins m_M_init 126 = some (.putfield 49, 3, 1117, 0, 129) := rfl
theorem i_M_init_129 : ins m_M_init 129 = some (.aload_n 0, 1, 0, 0, 130) := rfl
theorem i_M_init_130 : ins m_M_init 130 = some (.bipush 32, 2, 0, 0, 132) := rfl
theorem i_M_init_132 : ins m_M_init 132 = some (.newarray .int, 2, 13, 0, 134) := rfl
theorem i_M_init_134 : ins m_M_init 134 = some (.putfield 52, 3, 1118, 0, 137) := rfl
theorem i_M_init_137 : ins m_M_init 137 = some (.aload_n 0, 1, 0, 0, 138) := rfl
theorem i_M_init_138 : ins m_M_init 138 = some (.bipush 32, 2, 0, 0, 140) := rfl
theorem i_M_init_140 : ins m_M_init 140 = some (.newarray .int, 2, 13, 0, 142) := rfl
theorem i_M_init_142 : ins m_M_init 142 = some (.putfield 55, 3, 1119, 0, 145) := rfl
theorem i_M_init_145 : ins m_M_init 145 = some (.aload_n 0, 1, 0, 0, 146) := rfl
theorem i_M_init_146 : ins m_M_init 146 = some (.bipush 32, 2, 0, 0, 148) := rfl
theorem i_M_init_148 : ins m_M_init 148 = some (.newarray .int, 2, 13, 0, 150) := rfl
theorem i_M_init_150 : ins m_M_init 150 = some (.putfield 58, 3, 1120, 0, 153) := rfl
theorem i_M_init_153 : ins m_M_init 153 = some (.aload_n 0, 1, 0, 0, 154) := rfl
theorem i_M_init_154 : ins m_M_init 154 = some (.bipush 32, 2, 0, 0, 156) := rfl
theorem i_M_init_156 : ins m_M_init 156 = some (.newarray .int, 2, 13, 0, 158) := rfl
theorem i_M_init_158 : ins m_M_init 158 = some (.putfield 61, 3, 1121, 0, 161) := rfl
theorem i_M_init_161 : ins m_M_init 161 = some (.aload_n 0, 1, 0, 0, 162) := rfl
theorem i_M_init_162 : ins m_M_init 162 = some (.bipush 32, 2, 0, 0, 164) := rfl
theorem i_M_init_164 : ins m_M_init 164 = some (.newarray .int, 2, 13, 0, 166) := rfl
theorem i_M_init_166 : ins m_M_init 166 = some (.putfield 64, 3, 1122, 0, 169) := rfl
theorem i_M_init_169 : ins m_M_init 169 = some (.aload_n 0, 1, 0, 0, 170) := rfl
theorem i_M_init_170 : ins m_M_init 170 = some (.bipush 8, 2, 0, 0, 172) := rfl
theorem i_M_init_172 : ins m_M_init 172 = some (.newarray .boolean, 2, 14, 0, 174) := rfl
theorem i_M_init_174 : ins m_M_init 174 = some (.putfield 67, 3, 1123, 0, 177) := rfl
theorem i_M_init_177 : ins m_M_init 177 = some (.aload_n 0, 1, 0, 0, 178) := rfl
theorem i_M_init_178 : ins m_M_init 178 = some (.bipush 8, 2, 0, 0, 180) := rfl
theorem i_M_init_180 : ins m_M_init 180 = some (.newarray .int, 2, 13, 0, 182) := rfl
theorem i_M_init_182 : ins m_M_init 182 = some (.putfield 71, 3, 1124, 0, 185) := rfl
theorem i_M_init_185 : ins m_M_init 185 = some (.aload_n 0, 1, 0, 0, 186) := rfl
theorem i_M_init_186 : ins m_M_init 186 = some (.sipush 240, 3, 0, 0, 189) := rfl
theorem i_M_init_189 : ins m_M_init 189 = some (.newarray .int, 2, 13, 0, 191) := rfl
theorem i_M_init_191 : ins m_M_init 191 = some (.putfield 74, 3, 1138, 0, 194) := rfl
theorem i_M_init_194 : ins m_M_init 194 = some (.aload_n 0, 1, 0, 0, 195) := rfl
theorem i_M_init_195 : ins m_M_init 195 = some (.sipush 240, 3, 0, 0, 198) := rfl
theorem i_M_init_198 : ins m_M_init 198 = some (.newarray .int, 2, 13, 0, 200) := rfl
theorem i_M_init_200 : ins m_M_init 200 = some (.putfield 77, 3, 1139, 0, 203) := rfl
theorem i_M_init_203 : ins m_M_init 203 = some (.aload_n 0, 1, 0, 0, 204) := rfl
theorem i_M_init_204 : ins m_M_init 204 = some (.aload_n 0, 1, 0, 0, 205) := rfl
theorem i_M_init_205 : ins m_M_init 205 = some (.getfield 13, 3, 1101, 0, 208) := rfl
theorem i_M_init_208 : ins m_M_init 208 = some (.putfield 80, 3, 1140, 0, 211) := rfl
theorem i_M_init_211 : ins m_M_init 211 = some (.aload_n 0, 1, 0, 0, 212) := rfl
theorem i_M_init_212 : ins m_M_init 212 = some (.sipush 1928, 3, 0, 0, 215) := rfl
theorem i_M_init_215 : ins m_M_init 215 = some (.newarray .int, 2, 13, 0, 217) := rfl
theorem i_M_init_217 : ins m_M_init 217 = some (.putfield 83, 3, 1153, 0, 220) := rfl
theorem i_M_init_220 : ins m_M_init 220 = some (.aload_n 0, 1, 0, 0, 221) := rfl
theorem i_M_init_221 : ins m_M_init 221 = some (.sipush 1928, 3, 0, 0, 224) := rfl
theorem i_M_init_224 : ins m_M_init 224 = some (.newarray .int, 2, 13, 0, 226) := rfl
theorem i_M_init_226 : ins m_M_init 226 = some (.putfield 86, 3, 1154, 0, 229) := rfl
theorem i_M_init_229 : ins m_M_init 229 = some (.aload_n 0, 1, 0, 0, 230) := rfl
theorem i_M_init_230 : ins m_M_init 230 = some (.sipush 1928, 3, 0, 0, 233) := rfl
theorem i_M_init_233 : ins m_M_init 233 = some (.newarray .int, 2, 13, 0, 235) := rfl
theorem i_M_init_235 : ins m_M_init 235 = some (.putfield 89, 3, 1155, 0, 238) := rfl
theorem i_M_init_238 : ins m_M_init 238 = some (.aload_n 0, 1, 0, 0, 239) := rfl
theorem i_M_init_239 : ins m_M_init 239 = some (.sipush 1928, 3, 0, 0, 242) := rfl
theorem i_M_init_242 : ins m_M_init 242 = some (.newarray .boolean, 2, 14, 0, 244) := rfl
theorem i_M_init_244 : ins m_M_init 244 = some (.putfield 92, 3, 1156, 0, 247) := rfl
theorem i_M_init_247 : ins m_M_init 247 = some (.aload_n 0, 1, 0, 0, 248) := rfl
theorem i_M_init_248 : ins m_M_init 248 = some (.sipush 1928, 3, 0, 0, 251) := rfl
theorem i_M_init_251 : ins m_M_init 251 = some (.newarray .boolean, 2, 14, 0, 253) := rfl
theorem i_M_init_253 : ins m_M_init 253 = some (.putfield 95, 3, 1157, 0, 256) := rfl
theorem i_M_init_256 : ins m_M_init 256 = some (.aload_n 0, 1, 0, 0, 257) := rfl
theorem i_M_init_257 : ins m_M_init 257 = some (.bipush 80, 2, 0, 0, 259) := rfl
theorem i_M_init_259 : ins m_M_init 259 = some (.newarray .int, 2, 13, 0, 261) := rfl
theorem i_M_init_261 : ins m_M_init 261 = some (.putfield 98, 3, 1158, 0, 264) := rfl
theorem i_M_init_264 : ins m_M_init 264 = some (.aload_n 0, 1, 0, 0, 265) := rfl
theorem i_M_init_265 : ins m_M_init 265 = some (.bipush 80, 2, 0, 0, 267) := rfl
theorem i_M_init_267 : ins m_M_init 267 = some (.newarray .int, 2, 13, 0, 269) := rfl
theorem i_M_init_269 : ins m_M_init 269 = some (.putfield 101, 3, 1159, 0, 272) := rfl
theorem i_M_init_272 : ins m_M_init 272 = some (.aload_n 0, 1, 0, 0, 273) := rfl
theorem i_M_init_273 : ins m_M_init 273 = some (.bipush 80, 2, 0, 0, 275) := rfl
theorem i_M_init_275 : ins m_M_init 275 = some (.newarray .int, 2, 13, 0, 277) := rfl
theorem i_M_init_277 : ins m_M_init 277 = some (.putfield 104, 3, 1160, 0, 280) := rfl
theorem i_M_init_280 : ins m_M_init 280 = some (.aload_n 0, 1, 0, 0, 281) := rfl
theorem i_M_init_281 : ins m_M_init 281 = some (.bipush 80, 2, 0, 0, 283) := rfl
theorem i_M_init_283 : ins m_M_init 283 = some (.newarray .int, 2, 13, 0, 285) := rfl
theorem i_M_init_285 : ins m_M_init 285 = some (.putfield 107, 3, 1161, 0, 288) := rfl
theorem i_M_init_288 : ins m_M_init 288 = some (.aload_n 0, 1, 0, 0, 289) := rfl
theorem i_M_init_289 : ins m_M_init 289 = some (.sipush 9000, 3, 0, 0, 292) := rfl
theorem i_M_init_292 : ins m_M_init 292 = some (.newarray .int, 2, 13, 0, 294) := rfl
theorem i_M_init_294 : ins m_M_init 294 = some (.putfield 110, 3, 1162, 0, 297) := rfl
theorem i_M_init_297 : ins m_M_init 297 = some (.aload_n 0, 1, 0, 0, 298) := rfl
theorem i_M_init_298 : ins m_M_init 298 = some (.sipush 9000, 3, 0, 0, 301) := rfl
theorem i_M_init_301 : ins m_M_init 301 = some (.newarray .int, 2, 13, 0, 303) := rfl
theorem i_M_init_303 : ins m_M_init 303 = some (.putfield 113, 3, 1163, 0, 306) := rfl
theorem i_M_init_306 : ins m_M_init 306 = some (.aload_n 0, 1, 0, 0, 307) := rfl
theorem i_M_init_307 : ins m_M_init 307 = some (.sipush 9000, 3, 0, 0, 310) := rfl
theorem i_M_init_310 : ins m_M_init 310 = some (.newarray .int, 2, 13, 0, 312) := rfl
theorem i_M_init_312 : ins m_M_init 312 = some (.putfield 116, 3, 1164, 0, 315) := rfl
theorem i_M_init_315 : ins m_M_init 315 = some (.aload_n 0, 1, 0, 0, 316) := rfl
theorem i_M_init_316 : ins m_M_init 316 = some (.sipush 9000, 3, 0, 0, 319) := rfl
theorem i_M_init_319 : ins m_M_init 319 = some (.newarray .int, 2, 13, 0, 321) := rfl
theorem i_M_init_321 : ins m_M_init 321 = some (.putfield 119, 3, 1165, 0, 324) := rfl
theorem i_M_init_324 : ins m_M_init 324 = some (.aload_n 0, 1, 0, 0, 325) := rfl
theorem i_M_init_325 : ins m_M_init 325 = some (.sipush 9000, 3, 0, 0, 328) := rfl
theorem i_M_init_328 : ins m_M_init 328 = some (.newarray .int, 2, 13, 0, 330) := rfl
theorem i_M_init_330 : ins m_M_init 330 = some (.putfield 122, 3, 1166, 0, 333) := rfl
theorem i_M_init_333 : ins m_M_init 333 = some (.aload_n 0, 1, 0, 0, 334) := rfl
theorem i_M_init_334 : ins m_M_init 334 = some (.sipush 9000, 3, 0, 0, 337) := rfl
theorem i_M_init_337 : ins m_M_init 337 = some (.newarray .int, 2, 13, 0, 339) := rfl
theorem i_M_init_339 : ins m_M_init 339 = some (.putfield 125, 3, 1167, 0, 342) := rfl
theorem i_M_init_342 : ins m_M_init 342 = some (.aload_n 0, 1, 0, 0, 343) := rfl
theorem i_M_init_343 : ins m_M_init 343 = some (.sipush 9000, 3, 0, 0, 346) := rfl
theorem i_M_init_346 : ins m_M_init 346 = some (.newarray .int, 2, 13, 0, 348) := rfl
theorem i_M_init_348 : ins m_M_init 348 = some (.putfield 128, 3, 1168, 0, 351) := rfl
theorem i_M_init_351 : ins m_M_init 351 = some (.aload_n 0, 1, 0, 0, 352) := rfl
theorem i_M_init_352 : ins m_M_init 352 = some (.sipush 2001, 3, 0, 0, 355) := rfl
theorem i_M_init_355 : ins m_M_init 355 = some (.newarray .int, 2, 13, 0, 357) := rfl
theorem i_M_init_357 : ins m_M_init 357 = some (.putfield 131, 3, 1176, 0, 360) := rfl
theorem i_M_init_360 : ins m_M_init 360 = some (.aload_n 0, 1, 0, 0, 361) := rfl
theorem i_M_init_361 : ins m_M_init 361 = some (.sipush 2001, 3, 0, 0, 364) := rfl
theorem i_M_init_364 : ins m_M_init 364 = some (.newarray .int, 2, 13, 0, 366) := rfl
theorem i_M_init_366 : ins m_M_init 366 = some (.putfield 134, 3, 1177, 0, 369) := rfl
theorem i_M_init_369 : ins m_M_init 369 = some (.aload_n 0, 1, 0, 0, 370) := rfl
theorem i_M_init_370 : ins m_M_init 370 = some (.sipush 2001, 3, 0, 0, 373) := rfl
theorem i_M_init_373 : ins m_M_init 373 = some (.newarray .int, 2, 13, 0, 375) := rfl
theorem i_M_init_375 : ins m_M_init 375 = some (.putfield 137, 3, 1178, 0, 378) := rfl
theorem i_M_init_378 : ins m_M_init 378 = some (.aload_n 0, 1, 0, 0, 379) := rfl
theorem i_M_init_379 : ins m_M_init 379 = some (.sipush 2001, 3, 0, 0, 382) := rfl
theorem i_M_init_382 : ins m_M_init 382 = some (.newarray .int, 2, 13, 0, 384) := rfl
theorem i_M_init_384 : ins m_M_init 384 = some (.putfield 140, 3, 1179, 0, 387) := rfl
theorem i_M_init_387 : ins m_M_init 387 = some (.aload_n 0, 1, 0, 0, 388) := rfl
theorem i_M_init_388 : ins m_M_init 388 = some (.sipush 30000, 3, 0, 0, 391) := rfl
theorem i_M_init_391 : ins m_M_init 391 = some (.newarray .int, 2, 13, 0, 393) := rfl
theorem i_M_init_393 : ins m_M_init 393 = some (.putfield 143, 3, 1180, 0, 396) := rfl
theorem i_M_init_396 : ins m_M_init 396 = some (.aload_n 0, 1, 0, 0, 397) := rfl
theorem i_M_init_397 : ins m_M_init 397 = some (.bipush 13, 2, 0, 0, 399) := rfl
theorem i_M_init_399 : ins m_M_init 399 = some (.sipush 260, 3, 0, 0, 402) := rfl
theorem i_M_init_402 : ins m_M_init 402 = some (.multianewarray 146 2, 4, 17, 0, 406) := rfl
theorem i_M_init_406 : ins m_M_init 406 = some (.putfield 148, 3, 1183, 0, 409) := rfl
theorem i_M_init_409 : ins m_M_init 409 = some (.iconst 0, 1, 0, 0, 410) := rfl
theorem i_M_init_410 : ins m_M_init 410 = some (.istore_n 1, 1, 0, 0, 411) := rfl
theorem i_M_init_411 : ins m_M_init 411 = some (.iload_n 1, 1, 0, 0, 412) := rfl
theorem i_M_init_412 : ins m_M_init 412 = some (.bipush 8, 2, 0, 0, 414) := rfl
theorem i_M_init_414 : ins m_M_init 414 = some (.if_icmp .ge 16, 3, 430, 0, 417) := rfl
theorem i_M_init_417 : ins m_M_init 417 = some (.aload_n 0, 1, 0, 0, 418) := rfl
theorem i_M_init_418 : ins m_M_init 418 = some (.getfield 19, 3, 1107, 0, 421) := rfl
theorem i_M_init_421 : ins m_M_init 421 = some (.iload_n 1, 1, 0, 0, 422) := rfl
theorem i_M_init_422 : ins m_M_init 422 = some (.iconst (-1), 1, 0, 0, 423) := rfl
theorem i_M_init_423 : ins m_M_init 423 = some (.iastore, 1, 0, 0, 424) := rfl
theorem i_M_init_424 : ins m_M_init 424 = some (.iinc 1 1, 3, 0, 0, 427) := rfl
theorem i_M_init_427 : ins m_M_init 427 = some (.goto (-16), 3, 411, 0, 430) := rfl
theorem i_M_init_430 : ins m_M_init 430 = some (.return_, 1, 0, 0, 431) := rfl
theorem i_M_feed_0 : ins m_M_feed 0 = some (.iload_n 1, 1, 0, 0, 1) := rfl
theorem i_M_feed_1 : ins m_M_feed 1 = some (.iconst 1, 1, 0, 0, 2) := rfl
theorem i_M_feed_2 : ins m_M_feed 2 = some (.if_icmp .lt 8, 3, 10, 0, 5) := rfl
theorem i_M_feed_5 : ins m_M_feed 5 = some (.iload_n 1, 1, 0, 0, 6) := rfl
theorem i_M_feed_6 : ins m_M_feed 6 = some (.iconst 4, 1, 0, 0, 7) := rfl
theorem i_M_feed_7 : ins m_M_feed 7 = some (.if_icmp .le 6, 3, 13, 0, 10) := rfl
theorem i_M_feed_10 : ins m_M_feed 10 = some (.bipush (-2), 2, 0, 0, 12) := rfl
theorem i_M_feed_12 : ins m_M_feed 12 = some (.ireturn, 1, 0, 0, 13) := rfl
theorem i_M_feed_13 : ins m_M_feed 13 = some (.aload_n 0, 1, 0, 0, 14) := rfl
theorem i_M_feed_14 : ins m_M_feed 14 = some (.getfield 151, 3, 1103, 0, 17) := rfl
theorem i_M_feed_17 : ins m_M_feed 17 = some (.iload_n 1, 1, 0, 0, 18) := rfl
theorem i_M_feed_18 : ins m_M_feed 18 = some (.iadd, 1, 0, 0, 19) := rfl
theorem i_M_feed_19 : ins m_M_feed 19 = some (.sipush 240, 3, 0, 0, 22) := rfl
theorem i_M_feed_22 : ins m_M_feed 22 = some (.if_icmp .le 6, 3, 28, 0, 25) := rfl
theorem i_M_feed_25 : ins m_M_feed 25 = some (.bipush (-4), 2, 0, 0, 27) := rfl
theorem i_M_feed_27 : ins m_M_feed 27 = some (.ireturn, 1, 0, 0, 28) := rfl
theorem i_M_feed_28 : ins m_M_feed 28 = some (.iconst 0, 1, 0, 0, 29) := rfl
theorem i_M_feed_29 : ins m_M_feed 29 = some (.istore_n 3, 1, 0, 0, 30) := rfl
theorem i_M_feed_30 : ins m_M_feed 30 = some (.iload_n 3, 1, 0, 0, 31) := rfl
theorem i_M_feed_31 : ins m_M_feed 31 = some (.iload_n 1, 1, 0, 0, 32) := rfl
theorem i_M_feed_32 : ins m_M_feed 32 = some (.if_icmp .ge 38, 3, 70, 0, 35) := rfl
theorem i_M_feed_35 : ins m_M_feed 35 = some (.aload_n 0, 1, 0, 0, 36) := rfl
theorem i_M_feed_36 : ins m_M_feed 36 = some (.getfield 9, 3, 1100, 0, 39) := rfl
theorem i_M_feed_39 : ins m_M_feed 39 = some (.aload_n 0, 1, 0, 0, 40) := rfl
theorem i_M_feed_40 : ins m_M_feed 40 = some (.getfield 151, 3, 1103, 0, 43) := rfl
theorem i_M_feed_43 : ins m_M_feed 43 = some (.iload_n 2, 1, 0, 0, 44) := rfl
theorem i_M_feed_44 : ins m_M_feed 44 = some (.bipush 8, 2, 0, 0, 46) := rfl
theorem i_M_feed_46 : ins m_M_feed 46 = some (.iload_n 3, 1, 0, 0, 47) := rfl
theorem i_M_feed_47 : ins m_M_feed 47 = some (.imul, 1, 0, 0, 48) := rfl
theorem i_M_feed_48 : ins m_M_feed 48 = some (.iushr, 1, 0, 0, 49) := rfl
theorem i_M_feed_49 : ins m_M_feed 49 = some (.sipush 255, 3, 0, 0, 52) := rfl
theorem i_M_feed_52 : ins m_M_feed 52 = some (.iand, 1, 0, 0, 53) := rfl
theorem i_M_feed_53 : ins m_M_feed 53 = some (.iastore, 1, 0, 0, 54) := rfl
theorem i_M_feed_54 : ins m_M_feed 54 = some (.aload_n 0, 1, 0, 0, 55) := rfl
theorem i_M_feed_55 : ins m_M_feed 55 = some (.dup, 1, 0, 0, 56) := rfl
theorem i_M_feed_56 : ins m_M_feed 56 = some (.getfield 151, 3, 1103, 0, 59) := rfl
theorem i_M_feed_59 : ins m_M_feed 59 = some (.iconst 1, 1, 0, 0, 60) := rfl
theorem i_M_feed_60 : ins m_M_feed 60 = some (.iadd, 1, 0, 0, 61) := rfl
theorem i_M_feed_61 : ins m_M_feed 61 = some (.putfield 151, 3, 1103, 0, 64) := rfl
theorem i_M_feed_64 : ins m_M_feed 64 = some (.iinc 3 1, 3, 0, 0, 67) := rfl
theorem i_M_feed_67 : ins m_M_feed 67 = some (.goto (-37), 3, 30, 0, 70) := rfl
theorem i_M_feed_70 : ins m_M_feed 70 = some (.aload_n 0, 1, 0, 0, 71) := rfl
theorem i_M_feed_71 : ins m_M_feed 71 = some (.getfield 151, 3, 1103, 0, 74) := rfl
theorem i_M_feed_74 : ins m_M_feed 74 = some (.ireturn, 1, 0, 0, 75) := rfl
theorem i_M_input_0 : ins m_M_input 0 = some (.iconst 0, 1, 0, 0, 1) := rfl
theorem i_M_input_1 : ins m_M_input 1 = some (.istore_n 1, 1, 0, 0, 2) := rfl
theorem i_M_input_2 : ins m_M_input 2 = some (.iload_n 1, 1, 0, 0, 3) := rfl
theorem i_M_input_3 : ins m_M_input 3 = some (.aload_n 0, 1, 0, 0, 4) := rfl
theorem i_M_input_4 : ins m_M_input 4 = some (.getfield 151, 3, 1103, 0, 7) := rfl
theorem i_M_input_7 : ins m_M_input 7 = some (.if_icmp .ge 21, 3, 28, 0, 10) := rfl
theorem i_M_input_10 : ins m_M_input 10 = some (.aload_n 0, 1, 0, 0, 11) := rfl
theorem i_M_input_11 : ins m_M_input 11 = some (.getfield 13, 3, 1101, 0, 14) := rfl
theorem i_M_input_14 : ins m_M_input 14 = some (.iload_n 1, 1, 0, 0, 15) := rfl
theorem i_M_input_15 : ins m_M_input 15 = some (.aload_n 0, 1, 0, 0, 16) := rfl
theorem i_M_input_16 : ins m_M_input 16 = some (.getfield 9, 3, 1100, 0, 19) := rfl
theorem i_M_input_19 : ins m_M_input 19 = some (.iload_n 1, 1, 0, 0, 20) := rfl
theorem i_M_input_20 : ins m_M_input 20 = some (.iaload, 1, 0, 0, 21) := rfl
theorem i_M_input_21 : ins m_M_input 21 = some (.iastore, 1, 0, 0, 22) := rfl
theorem i_M_input_22 : ins m_M_input 22 = some (.iinc 1 1, 3, 0, 0, 25) := rfl
theorem i_M_input_25 : ins m_M_input 25 = some (.goto (-23), 3, 2, 0, 28) := rfl
theorem i_M_input_28 : ins m_M_input 28 = some (.aload_n 0, 1, 0, 0, 29) := rfl
theorem i_M_input_29 : ins m_M_input 29 = some (.aload_n 0, 1, 0, 0, 30) := rfl
theorem i_M_input_30 : ins m_M_input 30 = some (.getfield 151, 3, 1103, 0, 33) := rfl
theorem i_M_input_33 : ins m_M_input 33 = some (.putfield 155, 3, 1104, 0, 36) := rfl
theorem i_M_input_36 : ins m_M_input 36 = some (.aload_n 0, 1, 0, 0, 37) := rfl
theorem i_M_input_37 : ins m_M_input 37 = some (.iconst 0, 1, 0, 0, 38) := rfl
theorem i_M_input_38 : ins m_M_input 38 = some (.putfield 151, 3, 1103, 0, 41) := rfl
theorem i_M_input_41 : ins m_M_input 41 = some (.aload_n 0, 1, 0, 0, 42) := rfl
theorem i_M_input_42 : ins m_M_input 42 = some (.iconst 0, 1, 0, 0, 43) := rfl
theorem i_M_input_43 : ins m_M_input 43 = some (.putfield 158, 3, 1169, 0, 46) := rfl
theorem i_M_input_46 : ins m_M_input 46 = some (.aload_n 0, 1, 0, 0, 47) := rfl
theorem i_M_input_47 : ins m_M_input 47 = some (.getfield 155, 3, 1104, 0, 50) := rfl
theorem i_M_input_50 : ins m_M_input 50 = some (.ireturn, 1, 0, 0, 51) := rfl
theorem i_M_isAt_0 : ins m_M_isAt 0 = some (.aload_n 0, 1, 0, 0, 1) := rfl
theorem i_M_isAt_1 : ins m_M_isAt 1 = some (.getfield 162, 3, 1125, 0, 4) := rfl
theorem i_M_isAt_4 : ins m_M_isAt 4 = some (.aload_n 0, 1, 0, 0, 5) := rfl
theorem i_M_isAt_5 : ins m_M_isAt 5 = some (.getfield 151, 3, 1103, 0, 8) := rfl
theorem i_M_isAt_8 : ins m_M_isAt 8 = some (.if_icmp .ge 33, 3, 41, 0, 11) := rfl
theorem i_M_isAt_11 : ins m_M_isAt 11 = some (.aload_n 0, 1, 0, 0, 12) := rfl
theorem i_M_isAt_12 : ins m_M_isAt 12 = some (.getfield 9, 3, 1100, 0, 15) := rfl
theorem i_M_isAt_15 : ins m_M_isAt 15 = some (.aload_n 0, 1, 0, 0, 16) := rfl
theorem i_M_isAt_16 : ins m_M_isAt 16 = some (.getfield 162, 3, 1125, 0, 19) := rfl
theorem i_M_isAt_19 : ins m_M_isAt 19 = some (.iaload, 1, 0, 0, 20) := rfl
theorem i_M_isAt_20 : ins m_M_isAt 20 = some (.iload_n 1, 1, 0, 0, 21) := rfl
theorem i_M_isAt_21 : ins m_M_isAt 21 = some (.if_icmp .lt 20, 3, 41, 0, 24) := rfl
theorem i_M_isAt_24 : ins m_M_isAt 24 = some (.aload_n 0, 1, 0, 0, 25) := rfl
theorem i_M_isAt_25 : ins m_M_isAt 25 = some (.getfield 9, 3, 1100, 0, 28) := rfl
theorem i_M_isAt_28 : ins m_M_isAt 28 = some (.aload_n 0, 1, 0, 0, 29) := rfl
theorem i_M_isAt_29 : ins m_M_isAt 29 = some (.getfield 162, 3, 1125, 0, 32) := rfl
theorem i_M_isAt_32 : ins m_M_isAt 32 = some (.iaload, 1, 0, 0, 33) := rfl
theorem i_M_isAt_33 : ins m_M_isAt 33 = some (.iload_n 2, 1, 0, 0, 34) := rfl
theorem i_M_isAt_34 : ins m_M_isAt 34 = some (.if_icmp .gt 7, 3, 41, 0, 37) := rfl
theorem i_M_isAt_37 : ins m_M_isAt 37 = some (.iconst 1, 1, 0, 0, 38) := rfl
theorem i_M_isAt_38 : ins m_M_isAt 38 = some (.goto 4, 3, 42, 0, 41) := rfl
theorem i_M_isAt_41 : ins m_M_isAt 41 = some (.iconst 0, 1, 0, 0, 42) := rfl
theorem i_M_isAt_42 : ins m_M_isAt 42 = some (.ireturn, 1, 0, 0, 43) := rfl
theorem i_M_skips_0 : ins m_M_skips 0 = some (.aload_n 0, 1, 0, 0, 1) := rfl
theorem i_M_skips_1 : ins m_M_skips 1 = some (.bipush 32, 2, 0, 0, 3) := rfl
theorem i_M_skips_3 : ins m_M_skips 3 = some (.bipush 32, 2, 0, 0, 5) := rfl
theorem i_M_skips_5 : ins m_M_skips 5 = some (.invokevirtual 165, 3, 115, 2, 8) := rfl
theorem i_M_skips_8 : ins m_M_skips 8 = some (.ifCond .eq 16, 3, 24, 0, 11) := rfl
theorem i_M_skips_11 : ins m_M_skips 11 = some (.aload_n 0, 1, 0, 0, 12) := rfl
theorem i_M_skips_12 : ins m_M_skips 12 = some (.dup, 1, 0, 0, 13) := rfl
theorem i_M_skips_13 : ins m_M_skips 13 = some (.getfield 162, 3, 1125, 0, 16) := rfl
theorem i_M_skips_16 : ins m_M_skips 16 = some (.iconst 1, 1, 0, 0, 17) := rfl
theorem i_M_skips_17 : ins m_M_skips 17 = some (.iadd, 1, 0, 0, 18) := rfl
theorem i_M_skips_18 : ins m_M_skips 18 = some (.putfield 162, 3, 1125, 0, 21) := rfl
theorem i_M_skips_21 : ins m_M_skips 21 = some (.goto (-21), 3, 0, 0, 24) := rfl
theorem i_M_skips_24 : ins m_M_skips 24 = some (.return_, 1, 0, 0, 25) := rfl
theorem i_M_wrong_0 : ins m_M_wrong 0 = some (.aload_n 0, 1, 0, 0, 1) := rfl
theorem i_M_wrong_1 : ins m_M_wrong 1 = some (.getfield 169, 3, 1126, 0, 4) := rfl
theorem i_M_wrong_4 : ins m_M_wrong 4 = some (.ifCond .ge 8, 3, 12, 0, 7) := rfl
theorem i_M_wrong_7 : ins m_M_wrong 7 = some (.aload_n 0, 1, 0, 0, 8) := rfl
theorem i_M_wrong_8 : ins m_M_wrong 8 = some (.iload_n 1, 1, 0, 0, 9) := rfl
theorem i_M_wrong_9 : ins m_M_wrong 9 = some (.putfield 169, 3, 1126, 0, 12) := rfl
theorem i_M_wrong_12 : ins m_M_wrong 12 = some (.return_, 1, 0, 0, 13) := rfl
theorem i_M_takes_0 : ins m_M_takes 0 = some (.aload_n 0, 1, 0, 0, 1) := rfl
theorem i_M_takes_1 : ins m_M_takes 1 = some (.getfield 169, 3, 1126, 0, 4) := rfl
theorem i_M_takes_4 : ins m_M_takes 4 = some (.ifCond .lt 5, 3, 9, 0, 7) := rfl
theorem i_M_takes_7 : ins m_M_takes 7 = some (.iconst 0, 1, 0, 0, 8) := rfl
theorem i_M_takes_8 : ins m_M_takes 8 = some (.ireturn, 1, 0, 0, 9) := rfl
theorem i_M_takes_9 : ins m_M_takes 9 = some (.aload_n 0, 1, 0, 0, 10) := rfl
theorem i_M_takes_10 : ins m_M_takes 10 = some (.invokevirtual 172, 3, 116, 0, 13) := rfl
theorem i_M_takes_13 : ins m_M_takes 13 = some (.aload_n 0, 1, 0, 0, 14) := rfl
theorem i_M_takes_14 : ins m_M_takes 14 = some (.iload_n 1, 1, 0, 0, 15) := rfl
theorem i_M_takes_15 : ins m_M_takes 15 = some (.iload_n 1, 1, 0, 0, 16) := rfl
theorem i_M_takes_16 : ins m_M_takes 16 = some (.invokevirtual 165, 3, 115, 2, 19) := rfl
theorem i_M_takes_19 : ins m_M_takes 19 = some (.ifCond .ne 5, 3, 24, 0, 22) := rfl
theorem i_M_takes_22 : ins m_M_takes 22 = some (.iconst 0, 1, 0, 0, 23) := rfl
theorem i_M_takes_23 : ins m_M_takes 23 = some (.ireturn, 1, 0, 0, 24) := rfl
theorem i_M_takes_24 : ins m_M_takes 24 = some (.aload_n 0, 1, 0, 0, 25) := rfl
theorem i_M_takes_25 : ins m_M_takes 25 = some (.dup, 1, 0, 0, 26) := rfl
theorem i_M_takes_26 : ins m_M_takes 26 = some (.getfield 162, 3, 1125, 0, 29) := rfl
theorem i_M_takes_29 : ins m_M_takes 29 = some (.iconst 1, 1, 0, 0, 30) := rfl
theorem i_M_takes_30 : ins m_M_takes 30 = some (.iadd, 1, 0, 0, 31) := rfl
theorem i_M_takes_31 : ins m_M_takes 31 = some (.putfield 162, 3, 1125, 0, 34) := rfl
theorem i_M_takes_34 : ins m_M_takes 34 = some (.iconst 1, 1, 0, 0, 35) := rfl
theorem i_M_takes_35 : ins m_M_takes 35 = some (.ireturn, 1, 0, 0, 36) := rfl
theorem i_M_need_0 : ins m_M_need 0 = some (.aload_n 0, 1, 0, 0, 1) := rfl
theorem i_M_need_1 : ins m_M_need 1 = some (.iload_n 1, 1, 0, 0, 2) := rfl
theorem i_M_need_2 : ins m_M_need 2 = some (.invokevirtual 175, 3, 118, 1, 5) := rfl
theorem i_M_need_5 : ins m_M_need 5 = some (.ifCond .ne 11, 3, 16, 0, 8) := rfl
theorem i_M_need_8 : ins m_M_need 8 = some (.aload_n 0, 1, 0, 0, 9) := rfl
theorem i_M_need_9 : ins m_M_need 9 = some (.aload_n 0, 1, 0, 0, 10) := rfl
theorem i_M_need_10 : ins m_M_need 10 = some (.getfield 162, 3, 1125, 0, 13) := rfl
theorem i_M_need_13 : ins m_M_need 13 = some (.invokevirtual 179, 3, 117, 1, 16) := rfl
theorem i_M_need_16 : ins m_M_need 16 = some (.return_, 1, 0, 0, 17) := rfl
theorem i_M_opens_0 : ins m_M_opens 0 = some (.aload_n 0, 1, 0, 0, 1) := rfl
theorem i_M_opens_1 : ins m_M_opens 1 = some (.getfield 169, 3, 1126, 0, 4) := rfl
theorem i_M_opens_4 : ins m_M_opens 4 = some (.ifCond .lt 4, 3, 8, 0, 7) := rfl
theorem i_M_opens_7 : ins m_M_opens 7 = some (.return_, 1, 0, 0, 8) := rfl
theorem i_M_opens_8 : ins m_M_opens 8 = some (.aload_n 0, 1, 0, 0, 9) := rfl
theorem i_M_opens_9 : ins m_M_opens 9 = some (.invokevirtual 172, 3, 116, 0, 12) := rfl
theorem i_M_opens_12 : ins m_M_opens 12 = some (.aload_n 0, 1, 0, 0, 13) := rfl
theorem i_M_opens_13 : ins m_M_opens 13 = some (.bipush 40, 2, 0, 0, 15) := rfl
theorem i_M_opens_15 : ins m_M_opens 15 = some (.bipush 40, 2, 0, 0, 17) := rfl
theorem i_M_opens_17 : ins m_M_opens 17 = some (.invokevirtual 165, 3, 115, 2, 20) := rfl
theorem i_M_opens_20 : ins m_M_opens 20 = some (.ifCond .eq 12, 3, 32, 0, 23) := rfl
theorem i_M_opens_23 : ins m_M_opens 23 = some (.aload_n 0, 1, 0, 0, 24) := rfl
theorem i_M_opens_24 : ins m_M_opens 24 = some (.getfield 183, 3, 1127, 0, 27) := rfl
theorem i_M_opens_27 : ins m_M_opens 27 = some (.bipush 8, 2, 0, 0, 29) := rfl
theorem i_M_opens_29 : ins m_M_opens 29 = some (.if_icmp .ne 12, 3, 41, 0, 32) := rfl
theorem i_M_opens_32 : ins m_M_opens 32 = some (.aload_n 0, 1, 0, 0, 33) := rfl
theorem i_M_opens_33 : ins m_M_opens 33 = some (.aload_n 0, 1, 0, 0, 34) := rfl
theorem i_M_opens_34 : ins m_M_opens 34 = some (.getfield 162, 3, 1125, 0, 37) := rfl
theorem i_M_opens_37 : ins m_M_opens 37 = some (.invokevirtual 179, 3, 117, 1, 40) := rfl
theorem i_M_opens_40 : ins m_M_opens 40 = some (.return_, 1, 0, 0, 41) := rfl
theorem i_M_opens_41 : ins m_M_opens 41 = some (.aload_n 0, 1, 0, 0, 42) := rfl
theorem i_M_opens_42 : ins m_M_opens 42 = some (.dup, 1, 0, 0, 43) := rfl
theorem i_M_opens_43 : ins m_M_opens 43 = some (.getfield 162, 3, 1125, 0, 46) := rfl
theorem i_M_opens_46 : ins m_M_opens 46 = some (.iconst 1, 1, 0, 0, 47) := rfl
theorem i_M_opens_47 : ins m_M_opens 47 = some (.iadd, 1, 0, 0, 48) := rfl
theorem i_M_opens_48 : ins m_M_opens 48 = some (.putfield 162, 3, 1125, 0, 51) := rfl
theorem i_M_opens_51 : ins m_M_opens 51 = some (.aload_n 0, 1, 0, 0, 52) := rfl
theorem i_M_opens_52 : ins m_M_opens 52 = some (.dup, 1, 0, 0, 53) := rfl
theorem i_M_opens_53 : ins m_M_opens 53 = some (.getfield 183, 3, 1127, 0, 56) := rfl
theorem i_M_opens_56 : ins m_M_opens 56 = some (.iconst 1, 1, 0, 0, 57) := rfl
theorem i_M_opens_57 : ins m_M_opens 57 = some (.iadd, 1, 0, 0, 58) := rfl
theorem i_M_opens_58 : ins m_M_opens 58 = some (.putfield 183, 3, 1127, 0, 61) := rfl
theorem i_M_opens_61 : ins m_M_opens 61 = some (.return_, 1, 0, 0, 62) := rfl
theorem i_M_closes_0 : ins m_M_closes 0 = some (.aload_n 0, 1, 0, 0, 1) := rfl
theorem i_M_closes_1 : ins m_M_closes 1 = some (.bipush 41, 2, 0, 0, 3) := rfl
theorem i_M_closes_3 : ins m_M_closes 3 = some (.invokevirtual 186, 3, 119, 1, 6) := rfl
theorem i_M_closes_6 : ins m_M_closes 6 = some (.aload_n 0, 1, 0, 0, 7) := rfl
theorem i_M_closes_7 : ins m_M_closes 7 = some (.dup, 1, 0, 0, 8) := rfl
theorem i_M_closes_8 : ins m_M_closes 8 = some (.getfield 183, 3, 1127, 0, 11) := rfl
theorem i_M_closes_11 : ins m_M_closes 11 = some (.iconst 1, 1, 0, 0, 12) := rfl
theorem i_M_closes_12 : ins m_M_closes 12 = some (.isub, 1, 0, 0, 13) := rfl
theorem i_M_closes_13 : ins m_M_closes 13 = some (.putfield 183, 3, 1127, 0, 16) := rfl
theorem i_M_closes_16 : ins m_M_closes 16 = some (.return_, 1, 0, 0, 17) := rfl
theorem i_M_atom_0 : ins m_M_atom 0 = some (.aload_n 0, 1, 0, 0, 1) := rfl
theorem i_M_atom_1 : ins m_M_atom 1 = some (.getfield 189, 3, 1129, 0, 4) := rfl
theorem i_M_atom_4 : ins m_M_atom 4 = some (.bipush 32, 2, 0, 0, 6) := rfl
theorem i_M_atom_6 : ins m_M_atom 6 = some (.if_icmp .ne 10, 3, 16, 0, 9) := rfl
theorem i_M_atom_9 : ins m_M_atom 9 = some (.aload_n 0, 1, 0, 0, 10) := rfl
theorem i_M_atom_10 : ins m_M_atom 10 = some (.iload_n 1, 1, 0, 0, 11) := rfl
theorem i_M_atom_11 : ins m_M_atom 11 = some (.invokevirtual 179, 3, 117, 1, 14) := rfl
theorem i_M_atom_14 : ins m_M_atom 14 = some (.iconst 0, 1, 0, 0, 15) := rfl
theorem i_M_atom_15 : ins m_M_atom 15 = some (.ireturn, 1, 0, 0, 16) := rfl
theorem i_M_atom_16 : ins m_M_atom 16 = some (.aload_n 0, 1, 0, 0, 17) := rfl
theorem i_M_atom_17 : ins m_M_atom 17 = some (.getfield 192, 3, 1136, 0, 20) := rfl
theorem i_M_atom_20 : ins m_M_atom 20 = some (.ifCond .eq 57, 3, 77, 0, 23) := rfl
theorem i_M_atom_23 : ins m_M_atom 23 = some (.aload_n 0, 1, 0, 0, 24) := rfl
theorem i_M_atom_24 : ins m_M_atom 24 = some (.getfield 52, 3, 1118, 0, 27) := rfl
theorem i_M_atom_27 : ins m_M_atom 27 = some (.aload_n 0, 1, 0, 0, 28) := rfl
theorem i_M_atom_28 : ins m_M_atom 28 = some (.getfield 189, 3, 1129, 0, 31) := rfl
theorem i_M_atom_31 : ins m_M_atom 31 = some (.iload_n 1, 1, 0, 0, 32) := rfl
theorem i_M_atom_32 : ins m_M_atom 32 = some (.iastore, 1, 0, 0, 33) := rfl
theorem i_M_atom_33 : ins m_M_atom 33 = some (.aload_n 0, 1, 0, 0, 34) := rfl
theorem i_M_atom_34 : ins m_M_atom 34 = some (.getfield 55, 3, 1119, 0, 37) := rfl
theorem i_M_atom_37 : ins m_M_atom 37 = some (.aload_n 0, 1, 0, 0, 38) := rfl
theorem i_M_atom_38 : ins m_M_atom 38 = some (.getfield 189, 3, 1129, 0, 41) := rfl
theorem i_M_atom_41 : ins m_M_atom 41 = some (.iload_n 2, 1, 0, 0, 42) := rfl
theorem i_M_atom_42 : ins m_M_atom 42 = some (.iastore, 1, 0, 0, 43) := rfl
theorem i_M_atom_43 : ins m_M_atom 43 = some (.aload_n 0, 1, 0, 0, 44) := rfl
theorem i_M_atom_44 : ins m_M_atom 44 = some (.getfield 58, 3, 1120, 0, 47) := rfl
theorem i_M_atom_47 : ins m_M_atom 47 = some (.aload_n 0, 1, 0, 0, 48) := rfl
theorem i_M_atom_48 : ins m_M_atom 48 = some (.getfield 189, 3, 1129, 0, 51) := rfl
theorem i_M_atom_51 : ins m_M_atom 51 = some (.iload_n 3, 1, 0, 0, 52) := rfl
theorem i_M_atom_52 : ins m_M_atom 52 = some (.iastore, 1, 0, 0, 53) := rfl
theorem i_M_atom_53 : ins m_M_atom 53 = some (.aload_n 0, 1, 0, 0, 54) := rfl
theorem i_M_atom_54 : ins m_M_atom 54 = some (.getfield 61, 3, 1121, 0, 57) := rfl
theorem i_M_atom_57 : ins m_M_atom 57 = some (.aload_n 0, 1, 0, 0, 58) := rfl
theorem i_M_atom_58 : ins m_M_atom 58 = some (.getfield 189, 3, 1129, 0, 61) := rfl
theorem i_M_atom_61 : ins m_M_atom 61 = some (.iload 4, 2, 0, 0, 63) := rfl
theorem i_M_atom_63 : ins m_M_atom 63 = some (.iastore, 1, 0, 0, 64) := rfl
theorem i_M_atom_64 : ins m_M_atom 64 = some (.aload_n 0, 1, 0, 0, 65) := rfl
theorem i_M_atom_65 : ins m_M_atom 65 = some (.getfield 64, 3, 1122, 0, 68) := rfl
theorem i_M_atom_68 : ins m_M_atom 68 = some (.aload_n 0, 1, 0, 0, 69) := rfl
theorem i_M_atom_69 : ins m_M_atom 69 = some (.getfield 189, 3, 1129, 0, 72) := rfl
theorem i_M_atom_72 : ins m_M_atom 72 = some (.aload_n 0, 1, 0, 0, 73) := rfl
theorem i_M_atom_73 : ins m_M_atom 73 = some (.getfield 195, 3, 1137, 0, 76) := rfl
theorem i_M_atom_76 : ins m_M_atom 76 = some (.iastore, 1, 0, 0, 77) := rfl
theorem i_M_atom_77 : ins m_M_atom 77 = some (.aload_n 0, 1, 0, 0, 78) := rfl
theorem i_M_atom_78 : ins m_M_atom 78 = some (.dup, 1, 0, 0, 79) := rfl
theorem i_M_atom_79 : ins m_M_atom 79 = some (.getfield 189, 3, 1129, 0, 82) := rfl
theorem i_M_atom_82 : ins m_M_atom 82 = some (.iconst 1, 1, 0, 0, 83) := rfl
theorem i_M_atom_83 : ins m_M_atom 83 = some (.iadd, 1, 0, 0, 84) := rfl
theorem i_M_atom_84 : ins m_M_atom 84 = some (.putfield 189, 3, 1129, 0, 87) := rfl
theorem i_M_atom_87 : ins m_M_atom 87 = some (.aload_n 0, 1, 0, 0, 88) := rfl
theorem i_M_atom_88 : ins m_M_atom 88 = some (.getfield 189, 3, 1129, 0, 91) := rfl
theorem i_M_atom_91 : ins m_M_atom 91 = some (.iconst 1, 1, 0, 0, 92) := rfl
theorem i_M_atom_92 : ins m_M_atom 92 = some (.isub, 1, 0, 0, 93) := rfl
theorem i_M_atom_93 : ins m_M_atom 93 = some (.ireturn, 1, 0, 0, 94) := rfl
theorem i_M_part_0 : ins m_M_part 0 = some (.aload_n 0, 1, 0, 0, 1) := rfl
theorem i_M_part_1 : ins m_M_part 1 = some (.getfield 198, 3, 1133, 0, 4) := rfl
theorem i_M_part_4 : ins m_M_part 4 = some (.sipush 260, 3, 0, 0, 7) := rfl
theorem i_M_part_7 : ins m_M_part 7 = some (.if_icmp .lt 5, 3, 12, 0, 10) := rfl
theorem i_M_part_10 : ins m_M_part 10 = some (.iconst 0, 1, 0, 0, 11) := rfl
theorem i_M_part_11 : ins m_M_part 11 = some (.ireturn, 1, 0, 0, 12) := rfl
theorem i_M_part_12 : ins m_M_part 12 = some (.aload_n 0, 1, 0, 0, 13) := rfl
theorem i_M_part_13 : ins m_M_part 13 = some (.getfield 40, 3, 1114, 0, 16) := rfl
theorem i_M_part_16 : ins m_M_part 16 = some (.aload_n 0, 1, 0, 0, 17) := rfl
theorem i_M_part_17 : ins m_M_part 17 = some (.getfield 198, 3, 1133, 0, 20) := rfl
theorem i_M_part_20 : ins m_M_part 20 = some (.iload_n 1, 1, 0, 0, 21) := rfl
theorem i_M_part_21 : ins m_M_part 21 = some (.iastore, 1, 0, 0, 22) := rfl
theorem i_M_part_22 : ins m_M_part 22 = some (.aload_n 0, 1, 0, 0, 23) := rfl
theorem i_M_part_23 : ins m_M_part 23 = some (.getfield 43, 3, 1115, 0, 26) := rfl
theorem i_M_part_26 : ins m_M_part 26 = some (.aload_n 0, 1, 0, 0, 27) := rfl
theorem i_M_part_27 : ins m_M_part 27 = some (.getfield 198, 3, 1133, 0, 30) := rfl
theorem i_M_part_30 : ins m_M_part 30 = some (.iload_n 2, 1, 0, 0, 31) := rfl
theorem i_M_part_31 : ins m_M_part 31 = some (.iastore, 1, 0, 0, 32) := rfl
theorem i_M_part_32 : ins m_M_part 32 = some (.aload_n 0, 1, 0, 0, 33) := rfl
theorem i_M_part_33 : ins m_M_part 33 = some (.getfield 46, 3, 1116, 0, 36) := rfl
theorem i_M_part_36 : ins m_M_part 36 = some (.aload_n 0, 1, 0, 0, 37) := rfl
theorem i_M_part_37 : ins m_M_part 37 = some (.getfield 198, 3, 1133, 0, 40) := rfl
theorem i_M_part_40 : ins m_M_part 40 = some (.iload_n 3, 1, 0, 0, 41) := rfl
theorem i_M_part_41 : ins m_M_part 41 = some (.iastore, 1, 0, 0, 42) := rfl
theorem i_M_part_42 : ins m_M_part 42 = some (.aload_n 0, 1, 0, 0, 43) := rfl
theorem i_M_part_43 : ins m_M_part 43 = some (.getfield 49, 3, 1117, 0, 46) := rfl
theorem i_M_part_46 : ins m_M_part 46 = some (.aload_n 0, 1, 0, 0, 47) := rfl
theorem i_M_part_47 : ins m_M_part 47 = some (.getfield 198, 3, 1133, 0, 50) := rfl
theorem i_M_part_50 : ins m_M_part 50 = some (.iload 4, 2, 0, 0, 52) := rfl
theorem i_M_part_52 : ins m_M_part 52 = some (.iastore, 1, 0, 0, 53) := rfl
theorem i_M_part_53 : ins m_M_part 53 = some (.aload_n 0, 1, 0, 0, 54) := rfl
theorem i_M_part_54 : ins m_M_part 54 = some (.dup, 1, 0, 0, 55) := rfl
theorem i_M_part_55 : ins m_M_part 55 = some (.getfield 198, 3, 1133, 0, 58) := rfl
theorem i_M_part_58 : ins m_M_part 58 = some (.iconst 1, 1, 0, 0, 59) := rfl
theorem i_M_part_59 : ins m_M_part 59 = some (.iadd, 1, 0, 0, 60) := rfl
theorem i_M_part_60 : ins m_M_part 60 = some (.putfield 198, 3, 1133, 0, 63) := rfl
theorem i_M_part_63 : ins m_M_part 63 = some (.aload_n 0, 1, 0, 0, 64) := rfl
theorem i_M_part_64 : ins m_M_part 64 = some (.getfield 198, 3, 1133, 0, 67) := rfl
theorem i_M_part_67 : ins m_M_part 67 = some (.iconst 1, 1, 0, 0, 68) := rfl
theorem i_M_part_68 : ins m_M_part 68 = some (.isub, 1, 0, 0, 69) := rfl
theorem i_M_part_69 : ins m_M_part 69 = some (.ireturn, 1, 0, 0, 70) := rfl
theorem i_M_inner_0 : ins m_M_inner 0 = some (.aload_n 0, 1, 0, 0, 1) := rfl
theorem i_M_inner_1 : ins m_M_inner 1 = some (.getfield 169, 3, 1126, 0, 4) := rfl
theorem i_M_inner_4 : ins m_M_inner 4 = some (.ifCond .lt 5, 3, 9, 0, 7) := rfl
theorem i_M_inner_7 : ins m_M_inner 7 = some (.iconst 0, 1, 0, 0, 8) := rfl
theorem i_M_inner_8 : ins m_M_inner 8 = some (.ireturn, 1, 0, 0, 9) := rfl
theorem i_M_inner_9 : ins m_M_inner 9 = some (.aload_n 0, 1, 0, 0, 10) := rfl
theorem i_M_inner_10 : ins m_M_inner 10 = some (.getfield 162, 3, 1125, 0, 13) := rfl
theorem i_M_inner_13 : ins m_M_inner 13 = some (.aload_n 0, 1, 0, 0, 14) := rfl
theorem i_M_inner_14 : ins m_M_inner 14 = some (.getfield 151, 3, 1103, 0, 17) := rfl
theorem i_M_inner_17 : ins m_M_inner 17 = some (.if_icmp .ge 29, 3, 46, 0, 20) := rfl
theorem i_M_inner_20 : ins m_M_inner 20 = some (.aload_n 0, 1, 0, 0, 21) := rfl
theorem i_M_inner_21 : ins m_M_inner 21 = some (.getfield 9, 3, 1100, 0, 24) := rfl
theorem i_M_inner_24 : ins m_M_inner 24 = some (.aload_n 0, 1, 0, 0, 25) := rfl
theorem i_M_inner_25 : ins m_M_inner 25 = some (.getfield 162, 3, 1125, 0, 28) := rfl
theorem i_M_inner_28 : ins m_M_inner 28 = some (.iaload, 1, 0, 0, 29) := rfl
theorem i_M_inner_29 : ins m_M_inner 29 = some (.iload_n 1, 1, 0, 0, 30) := rfl
theorem i_M_inner_30 : ins m_M_inner 30 = some (.if_icmp .lt 16, 3, 46, 0, 33) := rfl
theorem i_M_inner_33 : ins m_M_inner 33 = some (.aload_n 0, 1, 0, 0, 34) := rfl
theorem i_M_inner_34 : ins m_M_inner 34 = some (.getfield 9, 3, 1100, 0, 37) := rfl
theorem i_M_inner_37 : ins m_M_inner 37 = some (.aload_n 0, 1, 0, 0, 38) := rfl
theorem i_M_inner_38 : ins m_M_inner 38 = some (.getfield 162, 3, 1125, 0, 41) := rfl
theorem i_M_inner_41 : ins m_M_inner 41 = some (.iaload, 1, 0, 0, 42) := rfl
theorem i_M_inner_42 : ins m_M_inner 42 = some (.iload_n 2, 1, 0, 0, 43) := rfl
theorem i_M_inner_43 : ins m_M_inner 43 = some (.if_icmp .ne 13, 3, 56, 0, 46) := rfl
theorem i_M_inner_46 : ins m_M_inner 46 = some (.aload_n 0, 1, 0, 0, 47) := rfl
theorem i_M_inner_47 : ins m_M_inner 47 = some (.aload_n 0, 1, 0, 0, 48) := rfl
theorem i_M_inner_48 : ins m_M_inner 48 = some (.getfield 162, 3, 1125, 0, 51) := rfl
theorem i_M_inner_51 : ins m_M_inner 51 = some (.invokevirtual 179, 3, 117, 1, 54) := rfl
theorem i_M_inner_54 : ins m_M_inner 54 = some (.iconst 0, 1, 0, 0, 55) := rfl
theorem i_M_inner_55 : ins m_M_inner 55 = some (.ireturn, 1, 0, 0, 56) := rfl
theorem i_M_inner_56 : ins m_M_inner 56 = some (.aload_n 0, 1, 0, 0, 57) := rfl
theorem i_M_inner_57 : ins m_M_inner 57 = some (.dup, 1, 0, 0, 58) := rfl
theorem i_M_inner_58 : ins m_M_inner 58 = some (.getfield 162, 3, 1125, 0, 61) := rfl
theorem i_M_inner_61 : ins m_M_inner 61 = some (.iconst 1, 1, 0, 0, 62) := rfl
theorem i_M_inner_62 : ins m_M_inner 62 = some (.iadd, 1, 0, 0, 63) := rfl
theorem i_M_inner_63 : ins m_M_inner 63 = some (.putfield 162, 3, 1125, 0, 66) := rfl
theorem i_M_inner_66 : ins m_M_inner 66 = some (.aload_n 0, 1, 0, 0, 67) := rfl
theorem i_M_inner_67 : ins m_M_inner 67 = some (.getfield 9, 3, 1100, 0, 70) := rfl
theorem i_M_inner_70 : ins m_M_inner 70 = some (.aload_n 0, 1, 0, 0, 71) := rfl
theorem i_M_inner_71 : ins m_M_inner 71 = some (.getfield 162, 3, 1125, 0, 74) := rfl
theorem i_M_inner_74 : ins m_M_inner 74 = some (.iconst 1, 1, 0, 0, 75) := rfl
theorem i_M_inner_75 : ins m_M_inner 75 = some (.isub, 1, 0, 0, 76) := rfl
theorem i_M_inner_76 : ins m_M_inner 76 = some (.iaload, 1, 0, 0, 77) := rfl
theorem i_M_inner_77 : ins m_M_inner 77 = some (.ireturn, 1, 0, 0, 78) := rfl
theorem i_M_innerSign_0 : ins m_M_innerSign 0 = some (.aload_n 0, 1, 0, 0, 1) := rfl
theorem i_M_innerSign_1 : ins m_M_innerSign 1 = some (.getfield 169, 3, 1126, 0, 4) := rfl
theorem i_M_innerSign_4 : ins m_M_innerSign 4 = some (.ifCond .lt 4, 3, 8, 0, 7) := rfl
theorem i_M_innerSign_7 : ins m_M_innerSign 7 = some (.return_, 1, 0, 0, 8) := rfl
theorem i_M_innerSign_8 : ins m_M_innerSign 8 = some (.aload_n 0, 1, 0, 0, 9) := rfl
theorem i_M_innerSign_9 : ins m_M_innerSign 9 = some (.iload_n 1, 1, 0, 0, 10) := rfl
theorem i_M_innerSign_10 : ins m_M_innerSign 10 = some (.iload_n 1, 1, 0, 0, 11) := rfl
theorem i_M_innerSign_11 : ins m_M_innerSign 11 = some (.invokevirtual 165, 3, 115, 2, 14) := rfl
theorem i_M_innerSign_14 : ins m_M_innerSign 14 = some (.ifCond .ne 14, 3, 28, 0, 17) := rfl
theorem i_M_innerSign_17 : ins m_M_innerSign 17 = some (.aload_n 0, 1, 0, 0, 18) := rfl
theorem i_M_innerSign_18 : ins m_M_innerSign 18 = some (.aload_n 0, 1, 0, 0, 19) := rfl
theorem i_M_innerSign_19 : ins m_M_innerSign 19 = some (.getfield 162, 3, 1125, 0, 22) := rfl
theorem i_M_innerSign_22 : ins m_M_innerSign 22 = some (.invokevirtual 179, 3, 117, 1, 25) := rfl
theorem i_M_innerSign_25 : ins m_M_innerSign 25 = some (.goto 13, 3, 38, 0, 28) := rfl
theorem i_M_innerSign_28 : ins m_M_innerSign 28 = some (.aload_n 0, 1, 0, 0, 29) := rfl
theorem i_M_innerSign_29 : ins m_M_innerSign 29 = some (.dup, 1, 0, 0, 30) := rfl
theorem i_M_innerSign_30 : ins m_M_innerSign 30 = some (.getfield 162, 3, 1125, 0, 33) := rfl
theorem i_M_innerSign_33 : ins m_M_innerSign 33 = some (.iconst 1, 1, 0, 0, 34) := rfl
theorem i_M_innerSign_34 : ins m_M_innerSign 34 = some (.iadd, 1, 0, 0, 35) := rfl
theorem i_M_innerSign_35 : ins m_M_innerSign 35 = some (.putfield 162, 3, 1125, 0, 38) := rfl
theorem i_M_innerSign_38 : ins m_M_innerSign 38 = some (.return_, 1, 0, 0, 39) := rfl
theorem i_M_word_0 : ins m_M_word 0 = some (.aload_n 0, 1, 0, 0, 1) := rfl
theorem i_M_word_1 : ins m_M_word 1 = some (.getfield 162, 3, 1125, 0, 4) := rfl
theorem i_M_word_4 : ins m_M_word 4 = some (.istore_n 1, 1, 0, 0, 5) := rfl
theorem i_M_word_5 : ins m_M_word 5 = some (.aload_n 0, 1, 0, 0, 6) := rfl
theorem i_M_word_6 : ins m_M_word 6 = some (.bipush 97, 2, 0, 0, 8) := rfl
theorem i_M_word_8 : ins m_M_word 8 = some (.bipush 122, 2, 0, 0, 10) := rfl
theorem i_M_word_10 : ins m_M_word 10 = some (.invokevirtual 165, 3, 115, 2, 13) := rfl
theorem i_M_word_13 : ins m_M_word 13 = some (.ifCond .eq 16, 3, 29, 0, 16) := rfl
theorem i_M_word_16 : ins m_M_word 16 = some (.aload_n 0, 1, 0, 0, 17) := rfl
theorem i_M_word_17 : ins m_M_word 17 = some (.dup, 1, 0, 0, 18) := rfl
theorem i_M_word_18 : ins m_M_word 18 = some (.getfield 162, 3, 1125, 0, 21) := rfl
theorem i_M_word_21 : ins m_M_word 21 = some (.iconst 1, 1, 0, 0, 22) := rfl
theorem i_M_word_22 : ins m_M_word 22 = some (.iadd, 1, 0, 0, 23) := rfl
theorem i_M_word_23 : ins m_M_word 23 = some (.putfield 162, 3, 1125, 0, 26) := rfl
theorem i_M_word_26 : ins m_M_word 26 = some (.goto (-21), 3, 5, 0, 29) := rfl
theorem i_M_word_29 : ins m_M_word 29 = some (.iconst 0, 1, 0, 0, 30) := rfl
theorem i_M_word_30 : ins m_M_word 30 = some (.istore_n 2, 1, 0, 0, 31) := rfl
theorem i_M_word_31 : ins m_M_word 31 = some (.iload_n 2, 1, 0, 0, 32) := rfl
theorem i_M_word_32 : ins m_M_word 32 = some (.bipush 9, 2, 0, 0, 34) := rfl
theorem i_M_word_34 : ins m_M_word 34 = some (.if_icmp .ge 97, 3, 131, 0, 37) := rfl
theorem i_M_word_37 : ins m_M_word 37 = some (.aload_n 0, 1, 0, 0, 38) := rfl
theorem i_M_word_38 : ins m_M_word 38 = some (.getfield 162, 3, 1125, 0, 41) := rfl
theorem i_M_word_41 : ins m_M_word 41 = some (.iload_n 1, 1, 0, 0, 42) := rfl
theorem i_M_word_42 : ins m_M_word 42 = some (.isub, 1, 0, 0, 43) := rfl
theorem i_M_word_43 : ins m_M_word 43 = some (.iconst 5, 1, 0, 0, 44) := rfl
theorem i_M_word_44 : ins m_M_word 44 = some (.if_icmp .gt 7, 3, 51, 0, 47) := rfl
theorem i_M_word_47 : ins m_M_word 47 = some (.iconst 1, 1, 0, 0, 48) := rfl
theorem i_M_word_48 : ins m_M_word 48 = some (.goto 4, 3, 52, 0, 51) := rfl
theorem i_M_word_51 : ins m_M_word 51 = some (.iconst 0, 1, 0, 0, 52) := rfl
theorem i_M_word_52 : ins m_M_word 52 = some (.istore_n 3, 1, 0, 0, 53) := rfl
theorem i_M_word_53 : ins m_M_word 53 = some (.iconst 0, 1, 0, 0, 54) := rfl
theorem i_M_word_54 : ins m_M_word 54 = some (.istore 4, 2, 0, 0, 56) := rfl
theorem i_M_word_56 : ins m_M_word 56 = some (.iload 4, 2, 0, 0, 58) := rfl
theorem i_M_word_58 : ins m_M_word 58 = some (.bipush 6, 2, 0, 0, 60) := rfl
theorem i_M_word_60 : ins m_M_word 60 = some (.if_icmp .ge 59, 3, 119, 0, 63) := rfl
theorem i_M_word_63 : ins m_M_word 63 = some (.iload_n 3, 1, 0, 0, 64) := rfl
theorem i_M_word_64 : ins m_M_word 64 = some (.ifCond .eq 55, 3, 119, 0, 67) := rfl
theorem i_M_word_67 : ins m_M_word 67 = some (.ldc 201, 2, 9, 1, 69) := rfl
theorem i_M_word_69 : ins m_M_word 69 = some (.bipush 6, 2, 0, 0, 71) := rfl
theorem i_M_word_71 : ins m_M_word 71 = some (.iload_n 2, 1, 0, 0, 72) := rfl
theorem i_M_word_72 : ins m_M_word 72 = some (.imul, 1, 0, 0, 73) := rfl
theorem i_M_word_73 : ins m_M_word 73 = some (.iload 4, 2, 0, 0, 75) := rfl
theorem i_M_word_75 : ins m_M_word 75 = some (.iadd, 1, 0, 0, 76) := rfl
theorem i_M_word_76 : ins m_M_word 76 = some (.invokevirtual 203, 3, 9002, 0, 79) := rfl
theorem i_M_word_79 : ins m_M_word 79 = some (.iload_n 1, 1, 0, 0, 80) := rfl
theorem i_M_word_80 : ins m_M_word 80 = some (.iload 4, 2, 0, 0, 82) := rfl
theorem i_M_word_82 : ins m_M_word 82 = some (.iadd, 1, 0, 0, 83) := rfl
theorem i_M_word_83 : ins m_M_word 83 = some (.aload_n 0, 1, 0, 0, 84) := rfl
theorem i_M_word_84 : ins m_M_word 84 = some (.getfield 162, 3, 1125, 0, 87) := rfl
theorem i_M_word_87 : ins m_M_word 87 = some (.if_icmp .ge 15, 3, 102, 0, 90) := rfl
theorem i_M_word_90 : ins m_M_word 90 = some (.aload_n 0, 1, 0, 0, 91) := rfl
theorem i_M_word_91 : ins m_M_word 91 = some (.getfield 9, 3, 1100, 0, 94) := rfl
theorem i_M_word_94 : ins m_M_word 94 = some (.iload_n 1, 1, 0, 0, 95) := rfl
theorem i_M_word_95 : ins m_M_word 95 = some (.iload 4, 2, 0, 0, 97) := rfl
theorem i_M_word_97 : ins m_M_word 97 = some (.iadd, 1, 0, 0, 98) := rfl
theorem i_M_word_98 : ins m_M_word 98 = some (.iaload, 1, 0, 0, 99) := rfl
theorem i_M_word_99 : ins m_M_word 99 = some (.goto 5, 3, 104, 0, 102) := rfl
theorem i_M_word_102 : ins m_M_word 102 = some (.bipush 32, 2, 0, 0, 104) := rfl
theorem i_M_word_104 : ins m_M_word 104 = some (.if_icmp .ne 7, 3, 111, 0, 107) := rfl
theorem i_M_word_107 : ins m_M_word 107 = some (.iconst 1, 1, 0, 0, 108) := rfl
theorem i_M_word_108 : ins m_M_word 108 = some (.goto 4, 3, 112, 0, 111) := rfl
theorem i_M_word_111 : ins m_M_word 111 = some (.iconst 0, 1, 0, 0, 112) := rfl
theorem i_M_word_112 : ins m_M_word 112 = some (.istore_n 3, 1, 0, 0, 113) := rfl
theorem i_M_word_113 : ins m_M_word 113 = some (.iinc 4 1, 3, 0, 0, 116) := rfl
theorem i_M_word_116 : ins m_M_word 116 = some (.goto (-60), 3, 56, 0, 119) := rfl
theorem i_M_word_119 : ins m_M_word 119 = some (.iload_n 3, 1, 0, 0, 120) := rfl
theorem i_M_word_120 : ins m_M_word 120 = some (.ifCond .eq 5, 3, 125, 0, 123) := rfl
theorem i_M_word_123 : ins m_M_word 123 = some (.iload_n 2, 1, 0, 0, 124) := rfl
theorem i_M_word_124 : ins m_M_word 124 = some (.ireturn, 1, 0, 0, 125) := rfl
theorem i_M_word_125 : ins m_M_word 125 = some (.iinc 2 1, 3, 0, 0, 128) := rfl
theorem i_M_word_128 : ins m_M_word 128 = some (.goto (-97), 3, 31, 0, 131) := rfl
theorem i_M_word_131 : ins m_M_word 131 = some (.aload_n 0, 1, 0, 0, 132) := rfl
theorem i_M_word_132 : ins m_M_word 132 = some (.iload_n 1, 1, 0, 0, 133) := rfl
theorem i_M_word_133 : ins m_M_word 133 = some (.invokevirtual 179, 3, 117, 1, 136) := rfl
theorem i_M_word_136 : ins m_M_word 136 = some (.iconst (-1), 1, 0, 0, 137) := rfl
theorem i_M_word_137 : ins m_M_word 137 = some (.ireturn, 1, 0, 0, 138) := rfl
theorem i_M_readPart_0 : ins m_M_readPart 0 = some (.aload_n 0, 1, 0, 0, 1) := rfl
theorem i_M_readPart_1 : ins m_M_readPart 1 = some (.getfield 169, 3, 1126, 0, 4) := rfl
theorem i_M_readPart_4 : ins m_M_readPart 4 = some (.ifCond .lt 5, 3, 9, 0, 7) := rfl
theorem i_M_readPart_7 : ins m_M_readPart 7 = some (.iconst 0, 1, 0, 0, 8) := rfl
theorem i_M_readPart_8 : ins m_M_readPart 8 = some (.ireturn, 1, 0, 0, 9) := rfl
theorem i_M_readPart_9 : ins m_M_readPart 9 = some (.aload_n 0, 1, 0, 0, 10) := rfl
theorem i_M_readPart_10 : ins m_M_readPart 10 = some (.invokevirtual 172, 3, 116, 0, 13) := rfl
theorem i_M_readPart_13 : ins m_M_readPart 13 = some (.aload_n 0, 1, 0, 0, 14) := rfl
theorem i_M_readPart_14 : ins m_M_readPart 14 = some (.getfield 162, 3, 1125, 0, 17) := rfl
theorem i_M_readPart_17 : ins m_M_readPart 17 = some (.istore_n 1, 1, 0, 0, 18) := rfl
theorem i_M_readPart_18 : ins m_M_readPart 18 = some (.aload_n 0, 1, 0, 0, 19) := rfl
theorem i_M_readPart_19 : ins m_M_readPart 19 = some (.bipush 39, 2, 0, 0, 21) := rfl
theorem i_M_readPart_21 : ins m_M_readPart 21 = some (.bipush 39, 2, 0, 0, 23) := rfl
theorem i_M_readPart_23 : ins m_M_readPart 23 = some (.invokevirtual 165, 3, 115, 2, 26) := rfl
theorem i_M_readPart_26 : ins m_M_readPart 26 = some (.ifCond .eq 68, 3, 94, 0, 29) := rfl
theorem i_M_readPart_29 : ins m_M_readPart 29 = some (.aload_n 0, 1, 0, 0, 30) := rfl
theorem i_M_readPart_30 : ins m_M_readPart 30 = some (.getfield 189, 3, 1129, 0, 33) := rfl
theorem i_M_readPart_33 : ins m_M_readPart 33 = some (.bipush 32, 2, 0, 0, 35) := rfl
theorem i_M_readPart_35 : ins m_M_readPart 35 = some (.if_icmp .ne 8, 3, 43, 0, 38) := rfl
theorem i_M_readPart_38 : ins m_M_readPart 38 = some (.aload_n 0, 1, 0, 0, 39) := rfl
theorem i_M_readPart_39 : ins m_M_readPart 39 = some (.iload_n 1, 1, 0, 0, 40) := rfl
theorem i_M_readPart_40 : ins m_M_readPart 40 = some (.invokevirtual 179, 3, 117, 1, 43) := rfl
theorem i_M_readPart_43 : ins m_M_readPart 43 = some (.aload_n 0, 1, 0, 0, 44) := rfl
theorem i_M_readPart_44 : ins m_M_readPart 44 = some (.dup, 1, 0, 0, 45) := rfl
theorem i_M_readPart_45 : ins m_M_readPart 45 = some (.getfield 162, 3, 1125, 0, 48) := rfl
theorem i_M_readPart_48 : ins m_M_readPart 48 = some (.iconst 1, 1, 0, 0, 49) := rfl
theorem i_M_readPart_49 : ins m_M_readPart 49 = some (.iadd, 1, 0, 0, 50) := rfl
theorem i_M_readPart_50 : ins m_M_readPart 50 = some (.putfield 162, 3, 1125, 0, 53) := rfl
theorem i_M_readPart_53 : ins m_M_readPart 53 = some (.aload_n 0, 1, 0, 0, 54) := rfl
theorem i_M_readPart_54 : ins m_M_readPart 54 = some (.iconst 0, 1, 0, 0, 55) := rfl
theorem i_M_readPart_55 : ins m_M_readPart 55 = some (.bipush 39, 2, 0, 0, 57) := rfl
theorem i_M_readPart_57 : ins m_M_readPart 57 = some (.invokevirtual 209, 3, 124, 2, 60) := rfl
theorem i_M_readPart_60 : ins m_M_readPart 60 = some (.istore_n 2, 1, 0, 0, 61) := rfl
theorem i_M_readPart_61 : ins m_M_readPart 61 = some (.aload_n 0, 1, 0, 0, 62) := rfl
theorem i_M_readPart_62 : ins m_M_readPart 62 = some (.bipush 39, 2, 0, 0, 64) := rfl
theorem i_M_readPart_64 : ins m_M_readPart 64 = some (.invokevirtual 213, 3, 125, 1, 67) := rfl
theorem i_M_readPart_67 : ins m_M_readPart 67 = some (.aload_n 0, 1, 0, 0, 68) := rfl
theorem i_M_readPart_68 : ins m_M_readPart 68 = some (.getfield 169, 3, 1126, 0, 71) := rfl
theorem i_M_readPart_71 : ins m_M_readPart 71 = some (.ifCond .lt 7, 3, 78, 0, 74) := rfl
theorem i_M_readPart_74 : ins m_M_readPart 74 = some (.iconst 0, 1, 0, 0, 75) := rfl
theorem i_M_readPart_75 : ins m_M_readPart 75 = some (.goto 18, 3, 93, 0, 78) := rfl
theorem i_M_readPart_78 : ins m_M_readPart 78 = some (.aload_n 0, 1, 0, 0, 79) := rfl
theorem i_M_readPart_79 : ins m_M_readPart 79 = some (.iconst 0, 1, 0, 0, 80) := rfl
theorem i_M_readPart_80 : ins m_M_readPart 80 = some (.iload_n 2, 1, 0, 0, 81) := rfl
theorem i_M_readPart_81 : ins m_M_readPart 81 = some (.iload_n 2, 1, 0, 0, 82) := rfl
theorem i_M_readPart_82 : ins m_M_readPart 82 = some (.aload_n 0, 1, 0, 0, 83) := rfl
theorem i_M_readPart_83 : ins m_M_readPart 83 = some (.iload_n 1, 1, 0, 0, 84) := rfl
theorem i_M_readPart_84 : ins m_M_readPart 84 = some (.iconst 0, 1, 0, 0, 85) := rfl
theorem i_M_readPart_85 : ins m_M_readPart 85 = some (.iload_n 2, 1, 0, 0, 86) := rfl
theorem i_M_readPart_86 : ins m_M_readPart 86 = some (.iload_n 2, 1, 0, 0, 87) := rfl
theorem i_M_readPart_87 : ins m_M_readPart 87 = some (.invokevirtual 216, 3, 122, 4, 90) := rfl
theorem i_M_readPart_90 : ins m_M_readPart 90 = some (.invokevirtual 220, 3, 123, 4, 93) := rfl
theorem i_M_readPart_93 : ins m_M_readPart 93 = some (.ireturn, 1, 0, 0, 94) := rfl
theorem i_M_readPart_94 : ins m_M_readPart 94 = some (.aload_n 0, 1, 0, 0, 95) := rfl
theorem i_M_readPart_95 : ins m_M_readPart 95 = some (.bipush 91, 2, 0, 0, 97) := rfl
theorem i_M_readPart_97 : ins m_M_readPart 97 = some (.bipush 91, 2, 0, 0, 99) := rfl
theorem i_M_readPart_99 : ins m_M_readPart 99 = some (.invokevirtual 165, 3, 115, 2, 102) := rfl
theorem i_M_readPart_102 : ins m_M_readPart 102 = some (.ifCond .eq 74, 3, 176, 0, 105) := rfl
theorem i_M_readPart_105 : ins m_M_readPart 105 = some (.aload_n 0, 1, 0, 0, 106) := rfl
theorem i_M_readPart_106 : ins m_M_readPart 106 = some (.getfield 189, 3, 1129, 0, 109) := rfl
theorem i_M_readPart_109 : ins m_M_readPart 109 = some (.bipush 32, 2, 0, 0, 111) := rfl
theorem i_M_readPart_111 : ins m_M_readPart 111 = some (.if_icmp .ne 8, 3, 119, 0, 114) := rfl
theorem i_M_readPart_114 : ins m_M_readPart 114 = some (.aload_n 0, 1, 0, 0, 115) := rfl
theorem i_M_readPart_115 : ins m_M_readPart 115 = some (.iload_n 1, 1, 0, 0, 116) := rfl
theorem i_M_readPart_116 : ins m_M_readPart 116 = some (.invokevirtual 179, 3, 117, 1, 119) := rfl
theorem i_M_readPart_119 : ins m_M_readPart 119 = some (.aload_n 0, 1, 0, 0, 120) := rfl
theorem i_M_readPart_120 : ins m_M_readPart 120 = some (.dup, 1, 0, 0, 121) := rfl
theorem i_M_readPart_121 : ins m_M_readPart 121 = some (.getfield 162, 3, 1125, 0, 124) := rfl
theorem i_M_readPart_124 : ins m_M_readPart 124 = some (.iconst 1, 1, 0, 0, 125) := rfl
theorem i_M_readPart_125 : ins m_M_readPart 125 = some (.iadd, 1, 0, 0, 126) := rfl
theorem i_M_readPart_126 : ins m_M_readPart 126 = some (.putfield 162, 3, 1125, 0, 129) := rfl
theorem i_M_readPart_129 : ins m_M_readPart 129 = some (.aload_n 0, 1, 0, 0, 130) := rfl
theorem i_M_readPart_130 : ins m_M_readPart 130 = some (.iconst 0, 1, 0, 0, 131) := rfl
theorem i_M_readPart_131 : ins m_M_readPart 131 = some (.iconst (-1), 1, 0, 0, 132) := rfl
theorem i_M_readPart_132 : ins m_M_readPart 132 = some (.invokevirtual 209, 3, 124, 2, 135) := rfl
theorem i_M_readPart_135 : ins m_M_readPart 135 = some (.istore_n 2, 1, 0, 0, 136) := rfl
theorem i_M_readPart_136 : ins m_M_readPart 136 = some (.aload_n 0, 1, 0, 0, 137) := rfl
theorem i_M_readPart_137 : ins m_M_readPart 137 = some (.iload_n 2, 1, 0, 0, 138) := rfl
theorem i_M_readPart_138 : ins m_M_readPart 138 = some (.iconst (-1), 1, 0, 0, 139) := rfl
theorem i_M_readPart_139 : ins m_M_readPart 139 = some (.invokevirtual 209, 3, 124, 2, 142) := rfl
theorem i_M_readPart_142 : ins m_M_readPart 142 = some (.istore_n 3, 1, 0, 0, 143) := rfl
theorem i_M_readPart_143 : ins m_M_readPart 143 = some (.aload_n 0, 1, 0, 0, 144) := rfl
theorem i_M_readPart_144 : ins m_M_readPart 144 = some (.bipush 93, 2, 0, 0, 146) := rfl
theorem i_M_readPart_146 : ins m_M_readPart 146 = some (.invokevirtual 213, 3, 125, 1, 149) := rfl
theorem i_M_readPart_149 : ins m_M_readPart 149 = some (.aload_n 0, 1, 0, 0, 150) := rfl
theorem i_M_readPart_150 : ins m_M_readPart 150 = some (.getfield 169, 3, 1126, 0, 153) := rfl
theorem i_M_readPart_153 : ins m_M_readPart 153 = some (.ifCond .lt 7, 3, 160, 0, 156) := rfl
theorem i_M_readPart_156 : ins m_M_readPart 156 = some (.iconst 0, 1, 0, 0, 157) := rfl
theorem i_M_readPart_157 : ins m_M_readPart 157 = some (.goto 18, 3, 175, 0, 160) := rfl
theorem i_M_readPart_160 : ins m_M_readPart 160 = some (.aload_n 0, 1, 0, 0, 161) := rfl
theorem i_M_readPart_161 : ins m_M_readPart 161 = some (.iconst 1, 1, 0, 0, 162) := rfl
theorem i_M_readPart_162 : ins m_M_readPart 162 = some (.iload_n 2, 1, 0, 0, 163) := rfl
theorem i_M_readPart_163 : ins m_M_readPart 163 = some (.iload_n 3, 1, 0, 0, 164) := rfl
theorem i_M_readPart_164 : ins m_M_readPart 164 = some (.aload_n 0, 1, 0, 0, 165) := rfl
theorem i_M_readPart_165 : ins m_M_readPart 165 = some (.iload_n 1, 1, 0, 0, 166) := rfl
theorem i_M_readPart_166 : ins m_M_readPart 166 = some (.iconst 1, 1, 0, 0, 167) := rfl
theorem i_M_readPart_167 : ins m_M_readPart 167 = some (.iload_n 2, 1, 0, 0, 168) := rfl
theorem i_M_readPart_168 : ins m_M_readPart 168 = some (.iload_n 3, 1, 0, 0, 169) := rfl
theorem i_M_readPart_169 : ins m_M_readPart 169 = some (.invokevirtual 216, 3, 122, 4, 172) := rfl
theorem i_M_readPart_172 : ins m_M_readPart 172 = some (.invokevirtual 220, 3, 123, 4, 175) := rfl
theorem i_M_readPart_175 : ins m_M_readPart 175 = some (.ireturn, 1, 0, 0, 176) := rfl
theorem i_M_readPart_176 : ins m_M_readPart 176 = some (.aload_n 0, 1, 0, 0, 177) := rfl
theorem i_M_readPart_177 : ins m_M_readPart 177 = some (.bipush 65, 2, 0, 0, 179) := rfl
theorem i_M_readPart_179 : ins m_M_readPart 179 = some (.bipush 72, 2, 0, 0, 181) := rfl
theorem i_M_readPart_181 : ins m_M_readPart 181 = some (.invokevirtual 165, 3, 115, 2, 184) := rfl
theorem i_M_readPart_184 : ins m_M_readPart 184 = some (.ifCond .eq 66, 3, 250, 0, 187) := rfl
theorem i_M_readPart_187 : ins m_M_readPart 187 = some (.aload_n 0, 1, 0, 0, 188) := rfl
theorem i_M_readPart_188 : ins m_M_readPart 188 = some (.getfield 9, 3, 1100, 0, 191) := rfl
theorem i_M_readPart_191 : ins m_M_readPart 191 = some (.aload_n 0, 1, 0, 0, 192) := rfl
theorem i_M_readPart_192 : ins m_M_readPart 192 = some (.getfield 162, 3, 1125, 0, 195) := rfl
theorem i_M_readPart_195 : ins m_M_readPart 195 = some (.iaload, 1, 0, 0, 196) := rfl
theorem i_M_readPart_196 : ins m_M_readPart 196 = some (.bipush 65, 2, 0, 0, 198) := rfl
theorem i_M_readPart_198 : ins m_M_readPart 198 = some (.isub, 1, 0, 0, 199) := rfl
theorem i_M_readPart_199 : ins m_M_readPart 199 = some (.istore_n 2, 1, 0, 0, 200) := rfl
theorem i_M_readPart_200 : ins m_M_readPart 200 = some (.aload_n 0, 1, 0, 0, 201) := rfl
theorem i_M_readPart_201 : ins m_M_readPart 201 = some (.dup, 1, 0, 0, 202) := rfl
theorem i_M_readPart_202 : ins m_M_readPart 202 = some (.getfield 162, 3, 1125, 0, 205) := rfl
theorem i_M_readPart_205 : ins m_M_readPart 205 = some (.iconst 1, 1, 0, 0, 206) := rfl
theorem i_M_readPart_206 : ins m_M_readPart 206 = some (.iadd, 1, 0, 0, 207) := rfl
theorem i_M_readPart_207 : ins m_M_readPart 207 = some (.putfield 162, 3, 1125, 0, 210) := rfl
theorem i_M_readPart_210 : ins m_M_readPart 210 = some (.aload_n 0, 1, 0, 0, 211) := rfl
theorem i_M_readPart_211 : ins m_M_readPart 211 = some (.getfield 74, 3, 1138, 0, 214) := rfl
theorem i_M_readPart_214 : ins m_M_readPart 214 = some (.aload_n 0, 1, 0, 0, 215) := rfl
theorem i_M_readPart_215 : ins m_M_readPart 215 = some (.getfield 223, 3, 1134, 0, 218) := rfl
theorem i_M_readPart_218 : ins m_M_readPart 218 = some (.iload_n 1, 1, 0, 0, 219) := rfl
theorem i_M_readPart_219 : ins m_M_readPart 219 = some (.iastore, 1, 0, 0, 220) := rfl
theorem i_M_readPart_220 : ins m_M_readPart 220 = some (.aload_n 0, 1, 0, 0, 221) := rfl
theorem i_M_readPart_221 : ins m_M_readPart 221 = some (.getfield 77, 3, 1139, 0, 224) := rfl
theorem i_M_readPart_224 : ins m_M_readPart 224 = some (.aload_n 0, 1, 0, 0, 225) := rfl
theorem i_M_readPart_225 : ins m_M_readPart 225 = some (.getfield 223, 3, 1134, 0, 228) := rfl
theorem i_M_readPart_228 : ins m_M_readPart 228 = some (.iload_n 2, 1, 0, 0, 229) := rfl
theorem i_M_readPart_229 : ins m_M_readPart 229 = some (.iastore, 1, 0, 0, 230) := rfl
theorem i_M_readPart_230 : ins m_M_readPart 230 = some (.aload_n 0, 1, 0, 0, 231) := rfl
theorem i_M_readPart_231 : ins m_M_readPart 231 = some (.dup, 1, 0, 0, 232) := rfl
theorem i_M_readPart_232 : ins m_M_readPart 232 = some (.getfield 223, 3, 1134, 0, 235) := rfl
theorem i_M_readPart_235 : ins m_M_readPart 235 = some (.iconst 1, 1, 0, 0, 236) := rfl
theorem i_M_readPart_236 : ins m_M_readPart 236 = some (.iadd, 1, 0, 0, 237) := rfl
theorem i_M_readPart_237 : ins m_M_readPart 237 = some (.putfield 223, 3, 1134, 0, 240) := rfl
theorem i_M_readPart_240 : ins m_M_readPart 240 = some (.aload_n 0, 1, 0, 0, 241) := rfl
theorem i_M_readPart_241 : ins m_M_readPart 241 = some (.bipush 10, 2, 0, 0, 243) := rfl
theorem i_M_readPart_243 : ins m_M_readPart 243 = some (.iload_n 2, 1, 0, 0, 244) := rfl
theorem i_M_readPart_244 : ins m_M_readPart 244 = some (.iconst 0, 1, 0, 0, 245) := rfl
theorem i_M_readPart_245 : ins m_M_readPart 245 = some (.iconst 0, 1, 0, 0, 246) := rfl
theorem i_M_readPart_246 : ins m_M_readPart 246 = some (.invokevirtual 220, 3, 123, 4, 249) := rfl
theorem i_M_readPart_249 : ins m_M_readPart 249 = some (.ireturn, 1, 0, 0, 250) := rfl
theorem i_M_readPart_250 : ins m_M_readPart 250 = some (.aload_n 0, 1, 0, 0, 251) := rfl
theorem i_M_readPart_251 : ins m_M_readPart 251 = some (.bipush 40, 2, 0, 0, 253) := rfl
theorem i_M_readPart_253 : ins m_M_readPart 253 = some (.bipush 40, 2, 0, 0, 255) := rfl
theorem i_M_readPart_255 : ins m_M_readPart 255 = some (.invokevirtual 165, 3, 115, 2, 258) := rfl
theorem i_M_readPart_258 : ins m_M_readPart 258 = some (.ifCond .eq 26, 3, 284, 0, 261) := rfl
theorem i_M_readPart_261 : ins m_M_readPart 261 = some (.aload_n 0, 1, 0, 0, 262) := rfl
theorem i_M_readPart_262 : ins m_M_readPart 262 = some (.invokevirtual 226, 3, 120, 0, 265) := rfl
theorem i_M_readPart_265 : ins m_M_readPart 265 = some (.aload_n 0, 1, 0, 0, 266) := rfl
theorem i_M_readPart_266 : ins m_M_readPart 266 = some (.invokevirtual 229, 3, 131, 0, 269) := rfl
theorem i_M_readPart_269 : ins m_M_readPart 269 = some (.istore_n 2, 1, 0, 0, 270) := rfl
theorem i_M_readPart_270 : ins m_M_readPart 270 = some (.aload_n 0, 1, 0, 0, 271) := rfl
theorem i_M_readPart_271 : ins m_M_readPart 271 = some (.invokevirtual 233, 3, 121, 0, 274) := rfl
theorem i_M_readPart_274 : ins m_M_readPart 274 = some (.aload_n 0, 1, 0, 0, 275) := rfl
theorem i_M_readPart_275 : ins m_M_readPart 275 = some (.bipush 11, 2, 0, 0, 277) := rfl
theorem i_M_readPart_277 : ins m_M_readPart 277 = some (.iload_n 2, 1, 0, 0, 278) := rfl
theorem i_M_readPart_278 : ins m_M_readPart 278 = some (.iconst 0, 1, 0, 0, 279) := rfl
theorem i_M_readPart_279 : ins m_M_readPart 279 = some (.iconst 0, 1, 0, 0, 280) := rfl
theorem i_M_readPart_280 : ins m_M_readPart 280 = some (.invokevirtual 220, 3, 123, 4, 283) := rfl
theorem i_M_readPart_283 : ins m_M_readPart 283 = some (.ireturn, 1, 0, 0, 284) := rfl
theorem i_M_readPart_284 : ins m_M_readPart 284 = some (.aload_n 0, 1, 0, 0, 285) := rfl
theorem i_M_readPart_285 : ins m_M_readPart 285 = some (.bipush 97, 2, 0, 0, 287) := rfl
theorem i_M_readPart_287 : ins m_M_readPart 287 = some (.bipush 122, 2, 0, 0, 289) := rfl
theorem i_M_readPart_289 : ins m_M_readPart 289 = some (.invokevirtual 165, 3, 115, 2, 292) := rfl
theorem i_M_readPart_292 : ins m_M_readPart 292 = some (.ifCond .ne 13, 3, 305, 0, 295) := rfl
theorem i_M_readPart_295 : ins m_M_readPart 295 = some (.aload_n 0, 1, 0, 0, 296) := rfl
theorem i_M_readPart_296 : ins m_M_readPart 296 = some (.aload_n 0, 1, 0, 0, 297) := rfl
theorem i_M_readPart_297 : ins m_M_readPart 297 = some (.getfield 162, 3, 1125, 0, 300) := rfl
theorem i_M_readPart_300 : ins m_M_readPart 300 = some (.invokevirtual 179, 3, 117, 1, 303) := rfl
theorem i_M_readPart_303 : ins m_M_readPart 303 = some (.iconst 0, 1, 0, 0, 304) := rfl
theorem i_M_readPart_304 : ins m_M_readPart 304 = some (.ireturn, 1, 0, 0, 305) := rfl
theorem i_M_readPart_305 : ins m_M_readPart 305 = some (.aload_n 0, 1, 0, 0, 306) := rfl
theorem i_M_readPart_306 : ins m_M_readPart 306 = some (.invokevirtual 236, 3, 126, 0, 309) := rfl
theorem i_M_readPart_309 : ins m_M_readPart 309 = some (.istore_n 2, 1, 0, 0, 310) := rfl
theorem i_M_readPart_310 : ins m_M_readPart 310 = some (.aload_n 0, 1, 0, 0, 311) := rfl
theorem i_M_readPart_311 : ins m_M_readPart 311 = some (.getfield 169, 3, 1126, 0, 314) := rfl
theorem i_M_readPart_314 : ins m_M_readPart 314 = some (.ifCond .lt 5, 3, 319, 0, 317) := rfl
theorem i_M_readPart_317 : ins m_M_readPart 317 = some (.iconst 0, 1, 0, 0, 318) := rfl
theorem i_M_readPart_318 : ins m_M_readPart 318 = some (.ireturn, 1, 0, 0, 319) := rfl
theorem i_M_readPart_319 : ins m_M_readPart 319 = some (.iload_n 2, 1, 0, 0, 320) := rfl
theorem i_M_readPart_320 : ins m_M_readPart 320 = some (.ifCond .ne 7, 3, 327, 0, 323) := rfl
theorem i_M_readPart_323 : ins m_M_readPart 323 = some (.iconst 2, 1, 0, 0, 324) := rfl
theorem i_M_readPart_324 : ins m_M_readPart 324 = some (.goto 74, 3, 398, 0, 327) := rfl
theorem i_M_readPart_327 : ins m_M_readPart 327 = some (.iload_n 2, 1, 0, 0, 328) := rfl
theorem i_M_readPart_328 : ins m_M_readPart 328 = some (.iconst 1, 1, 0, 0, 329) := rfl
theorem i_M_readPart_329 : ins m_M_readPart 329 = some (.if_icmp .ne 7, 3, 336, 0, 332) := rfl
theorem i_M_readPart_332 : ins m_M_readPart 332 = some (.iconst 3, 1, 0, 0, 333) := rfl
theorem i_M_readPart_333 : ins m_M_readPart 333 = some (.goto 65, 3, 398, 0, 336) := rfl
theorem i_M_readPart_336 : ins m_M_readPart 336 = some (.iload_n 2, 1, 0, 0, 337) := rfl
theorem i_M_readPart_337 : ins m_M_readPart 337 = some (.iconst 2, 1, 0, 0, 338) := rfl
theorem i_M_readPart_338 : ins m_M_readPart 338 = some (.if_icmp .ne 7, 3, 345, 0, 341) := rfl
theorem i_M_readPart_341 : ins m_M_readPart 341 = some (.iconst 4, 1, 0, 0, 342) := rfl
theorem i_M_readPart_342 : ins m_M_readPart 342 = some (.goto 56, 3, 398, 0, 345) := rfl
theorem i_M_readPart_345 : ins m_M_readPart 345 = some (.iload_n 2, 1, 0, 0, 346) := rfl
theorem i_M_readPart_346 : ins m_M_readPart 346 = some (.iconst 3, 1, 0, 0, 347) := rfl
theorem i_M_readPart_347 : ins m_M_readPart 347 = some (.if_icmp .ne 7, 3, 354, 0, 350) := rfl
theorem i_M_readPart_350 : ins m_M_readPart 350 = some (.iconst 5, 1, 0, 0, 351) := rfl
theorem i_M_readPart_351 : ins m_M_readPart 351 = some (.goto 47, 3, 398, 0, 354) := rfl
theorem i_M_readPart_354 : ins m_M_readPart 354 = some (.iload_n 2, 1, 0, 0, 355) := rfl
theorem i_M_readPart_355 : ins m_M_readPart 355 = some (.iconst 4, 1, 0, 0, 356) := rfl
theorem i_M_readPart_356 : ins m_M_readPart 356 = some (.if_icmp .ne 8, 3, 364, 0, 359) := rfl
theorem i_M_readPart_359 : ins m_M_readPart 359 = some (.bipush 6, 2, 0, 0, 361) := rfl
theorem i_M_readPart_361 : ins m_M_readPart 361 = some (.goto 37, 3, 398, 0, 364) := rfl
theorem i_M_readPart_364 : ins m_M_readPart 364 = some (.iload_n 2, 1, 0, 0, 365) := rfl
theorem i_M_readPart_365 : ins m_M_readPart 365 = some (.iconst 5, 1, 0, 0, 366) := rfl
theorem i_M_readPart_366 : ins m_M_readPart 366 = some (.if_icmp .ne 8, 3, 374, 0, 369) := rfl
theorem i_M_readPart_369 : ins m_M_readPart 369 = some (.bipush 7, 2, 0, 0, 371) := rfl
theorem i_M_readPart_371 : ins m_M_readPart 371 = some (.goto 27, 3, 398, 0, 374) := rfl
theorem i_M_readPart_374 : ins m_M_readPart 374 = some (.iload_n 2, 1, 0, 0, 375) := rfl
theorem i_M_readPart_375 : ins m_M_readPart 375 = some (.bipush 6, 2, 0, 0, 377) := rfl
theorem i_M_readPart_377 : ins m_M_readPart 377 = some (.if_icmp .ne 8, 3, 385, 0, 380) := rfl
theorem i_M_readPart_380 : ins m_M_readPart 380 = some (.bipush 8, 2, 0, 0, 382) := rfl
theorem i_M_readPart_382 : ins m_M_readPart 382 = some (.goto 16, 3, 398, 0, 385) := rfl
theorem i_M_readPart_385 : ins m_M_readPart 385 = some (.iload_n 2, 1, 0, 0, 386) := rfl
theorem i_M_readPart_386 : ins m_M_readPart 386 = some (.bipush 7, 2, 0, 0, 388) := rfl
theorem i_M_readPart_388 : ins m_M_readPart 388 = some (.if_icmp .ne 8, 3, 396, 0, 391) := rfl
theorem i_M_readPart_391 : ins m_M_readPart 391 = some (.bipush 9, 2, 0, 0, 393) := rfl
theorem i_M_readPart_393 : ins m_M_readPart 393 = some (.goto 5, 3, 398, 0, 396) := rfl
theorem i_M_readPart_396 : ins m_M_readPart 396 = some (.bipush 12, 2, 0, 0, 398) := rfl
theorem i_M_readPart_398 : ins m_M_readPart 398 = some (.istore_n 3, 1, 0, 0, 399) := rfl
theorem i_M_readPart_399 : ins m_M_readPart 399 = some (.iload_n 2, 1, 0, 0, 400) := rfl
theorem i_M_readPart_400 : ins m_M_readPart 400 = some (.iconst 5, 1, 0, 0, 401) := rfl
theorem i_M_readPart_401 : ins m_M_readPart 401 = some (.if_icmp .ge 16, 3, 417, 0, 404) := rfl
theorem i_M_readPart_404 : ins m_M_readPart 404 = some (.aload_n 0, 1, 0, 0, 405) := rfl
theorem i_M_readPart_405 : ins m_M_readPart 405 = some (.iload_n 1, 1, 0, 0, 406) := rfl
theorem i_M_readPart_406 : ins m_M_readPart 406 = some (.iconst 2, 1, 0, 0, 407) := rfl
theorem i_M_readPart_407 : ins m_M_readPart 407 = some (.iload_n 2, 1, 0, 0, 408) := rfl
theorem i_M_readPart_408 : ins m_M_readPart 408 = some (.iadd, 1, 0, 0, 409) := rfl
theorem i_M_readPart_409 : ins m_M_readPart 409 = some (.iconst (-1), 1, 0, 0, 410) := rfl
theorem i_M_readPart_410 : ins m_M_readPart 410 = some (.iconst (-1), 1, 0, 0, 411) := rfl
theorem i_M_readPart_411 : ins m_M_readPart 411 = some (.invokevirtual 216, 3, 122, 4, 414) := rfl
theorem i_M_readPart_414 : ins m_M_readPart 414 = some (.goto 4, 3, 418, 0, 417) := rfl
theorem i_M_readPart_417 : ins m_M_readPart 417 = some (.iconst 0, 1, 0, 0, 418) := rfl
theorem i_M_readPart_418 : ins m_M_readPart 418 = some (.istore 4, 2, 0, 0, 420) := rfl
theorem i_M_readPart_420 : ins m_M_readPart 420 = some (.aload_n 0, 1, 0, 0, 421) := rfl
theorem i_M_readPart_421 : ins m_M_readPart 421 = some (.getfield 169, 3, 1126, 0, 424) := rfl
theorem i_M_readPart_424 : ins m_M_readPart 424 = some (.ifCond .ge 13, 3, 437, 0, 427) := rfl
theorem i_M_readPart_427 : ins m_M_readPart 427 = some (.iload_n 2, 1, 0, 0, 428) := rfl
theorem i_M_readPart_428 : ins m_M_readPart 428 = some (.iconst 3, 1, 0, 0, 429) := rfl
theorem i_M_readPart_429 : ins m_M_readPart 429 = some (.if_icmp .lt 8, 3, 437, 0, 432) := rfl
theorem i_M_readPart_432 : ins m_M_readPart 432 = some (.iload_n 2, 1, 0, 0, 433) := rfl
theorem i_M_readPart_433 : ins m_M_readPart 433 = some (.iconst 5, 1, 0, 0, 434) := rfl
theorem i_M_readPart_434 : ins m_M_readPart 434 = some (.if_icmp .ne 13, 3, 447, 0, 437) := rfl
theorem i_M_readPart_437 : ins m_M_readPart 437 = some (.aload_n 0, 1, 0, 0, 438) := rfl
theorem i_M_readPart_438 : ins m_M_readPart 438 = some (.iload_n 3, 1, 0, 0, 439) := rfl
theorem i_M_readPart_439 : ins m_M_readPart 439 = some (.iconst 0, 1, 0, 0, 440) := rfl
theorem i_M_readPart_440 : ins m_M_readPart 440 = some (.iconst 0, 1, 0, 0, 441) := rfl
theorem i_M_readPart_441 : ins m_M_readPart 441 = some (.iload 4, 2, 0, 0, 443) := rfl
theorem i_M_readPart_443 : ins m_M_readPart 443 = some (.invokevirtual 220, 3, 123, 4, 446) := rfl
theorem i_M_readPart_446 : ins m_M_readPart 446 = some (.ireturn, 1, 0, 0, 447) := rfl
theorem i_M_readPart_447 : ins m_M_readPart 447 = some (.aload_n 0, 1, 0, 0, 448) := rfl
theorem i_M_readPart_448 : ins m_M_readPart 448 = some (.invokevirtual 226, 3, 120, 0, 451) := rfl
theorem i_M_readPart_451 : ins m_M_readPart 451 = some (.aload_n 0, 1, 0, 0, 452) := rfl
theorem i_M_readPart_452 : ins m_M_readPart 452 = some (.invokevirtual 229, 3, 131, 0, 455) := rfl
theorem i_M_readPart_455 : ins m_M_readPart 455 = some (.istore 5, 2, 0, 0, 457) := rfl
theorem i_M_readPart_457 : ins m_M_readPart 457 = some (.iconst 0, 1, 0, 0, 458) := rfl
theorem i_M_readPart_458 : ins m_M_readPart 458 = some (.istore 6, 2, 0, 0, 460) := rfl
theorem i_M_readPart_460 : ins m_M_readPart 460 = some (.iload_n 3, 1, 0, 0, 461) := rfl
theorem i_M_readPart_461 : ins m_M_readPart 461 = some (.bipush 12, 2, 0, 0, 463) := rfl
theorem i_M_readPart_463 : ins m_M_readPart 463 = some (.if_icmp .ne 15, 3, 478, 0, 466) := rfl
theorem i_M_readPart_466 : ins m_M_readPart 466 = some (.aload_n 0, 1, 0, 0, 467) := rfl
theorem i_M_readPart_467 : ins m_M_readPart 467 = some (.bipush 44, 2, 0, 0, 469) := rfl
theorem i_M_readPart_469 : ins m_M_readPart 469 = some (.invokevirtual 186, 3, 119, 1, 472) := rfl
theorem i_M_readPart_472 : ins m_M_readPart 472 = some (.aload_n 0, 1, 0, 0, 473) := rfl
theorem i_M_readPart_473 : ins m_M_readPart 473 = some (.invokevirtual 229, 3, 131, 0, 476) := rfl
theorem i_M_readPart_476 : ins m_M_readPart 476 = some (.istore 6, 2, 0, 0, 478) := rfl
theorem i_M_readPart_478 : ins m_M_readPart 478 = some (.aload_n 0, 1, 0, 0, 479) := rfl
theorem i_M_readPart_479 : ins m_M_readPart 479 = some (.invokevirtual 233, 3, 121, 0, 482) := rfl
theorem i_M_readPart_482 : ins m_M_readPart 482 = some (.aload_n 0, 1, 0, 0, 483) := rfl
theorem i_M_readPart_483 : ins m_M_readPart 483 = some (.iload_n 3, 1, 0, 0, 484) := rfl
theorem i_M_readPart_484 : ins m_M_readPart 484 = some (.iload 5, 2, 0, 0, 486) := rfl
theorem i_M_readPart_486 : ins m_M_readPart 486 = some (.iload 6, 2, 0, 0, 488) := rfl
theorem i_M_readPart_488 : ins m_M_readPart 488 = some (.iload 4, 2, 0, 0, 490) := rfl
theorem i_M_readPart_490 : ins m_M_readPart 490 = some (.invokevirtual 220, 3, 123, 4, 493) := rfl
theorem i_M_readPart_493 : ins m_M_readPart 493 = some (.ireturn, 1, 0, 0, 494) := rfl
theorem i_M_item_0 : ins m_M_item 0 = some (.aload_n 0, 1, 0, 0, 1) := rfl
theorem i_M_item_1 : ins m_M_item 1 = some (.invokevirtual 239, 3, 127, 0, 4) := rfl
theorem i_M_item_4 : ins m_M_item 4 = some (.istore_n 1, 1, 0, 0, 5) := rfl
theorem i_M_item_5 : ins m_M_item 5 = some (.aload_n 0, 1, 0, 0, 6) := rfl
theorem i_M_item_6 : ins m_M_item 6 = some (.bipush 42, 2, 0, 0, 8) := rfl
theorem i_M_item_8 : ins m_M_item 8 = some (.invokevirtual 175, 3, 118, 1, 11) := rfl
theorem i_M_item_11 : ins m_M_item 11 = some (.ifCond .eq 8, 3, 19, 0, 14) := rfl
theorem i_M_item_14 : ins m_M_item 14 = some (.bipush 42, 2, 0, 0, 16) := rfl
theorem i_M_item_16 : ins m_M_item 16 = some (.goto 32, 3, 48, 0, 19) := rfl
theorem i_M_item_19 : ins m_M_item 19 = some (.aload_n 0, 1, 0, 0, 20) := rfl
theorem i_M_item_20 : ins m_M_item 20 = some (.bipush 43, 2, 0, 0, 22) := rfl
theorem i_M_item_22 : ins m_M_item 22 = some (.invokevirtual 175, 3, 118, 1, 25) := rfl
theorem i_M_item_25 : ins m_M_item 25 = some (.ifCond .eq 8, 3, 33, 0, 28) := rfl
theorem i_M_item_28 : ins m_M_item 28 = some (.bipush 43, 2, 0, 0, 30) := rfl
theorem i_M_item_30 : ins m_M_item 30 = some (.goto 18, 3, 48, 0, 33) := rfl
theorem i_M_item_33 : ins m_M_item 33 = some (.aload_n 0, 1, 0, 0, 34) := rfl
theorem i_M_item_34 : ins m_M_item 34 = some (.bipush 63, 2, 0, 0, 36) := rfl
theorem i_M_item_36 : ins m_M_item 36 = some (.invokevirtual 175, 3, 118, 1, 39) := rfl
theorem i_M_item_39 : ins m_M_item 39 = some (.ifCond .eq 8, 3, 47, 0, 42) := rfl
theorem i_M_item_42 : ins m_M_item 42 = some (.bipush 63, 2, 0, 0, 44) := rfl
theorem i_M_item_44 : ins m_M_item 44 = some (.goto 4, 3, 48, 0, 47) := rfl
theorem i_M_item_47 : ins m_M_item 47 = some (.iconst 0, 1, 0, 0, 48) := rfl
theorem i_M_item_48 : ins m_M_item 48 = some (.istore_n 2, 1, 0, 0, 49) := rfl
theorem i_M_item_49 : ins m_M_item 49 = some (.aload_n 0, 1, 0, 0, 50) := rfl
theorem i_M_item_50 : ins m_M_item 50 = some (.getfield 242, 3, 1132, 0, 53) := rfl
theorem i_M_item_53 : ins m_M_item 53 = some (.istore_n 3, 1, 0, 0, 54) := rfl
theorem i_M_item_54 : ins m_M_item 54 = some (.aload_n 0, 1, 0, 0, 55) := rfl
theorem i_M_item_55 : ins m_M_item 55 = some (.dup, 1, 0, 0, 56) := rfl
theorem i_M_item_56 : ins m_M_item 56 = some (.getfield 242, 3, 1132, 0, 59) := rfl
theorem i_M_item_59 : ins m_M_item 59 = some (.iconst 1, 1, 0, 0, 60) := rfl
theorem i_M_item_60 : ins m_M_item 60 = some (.iadd, 1, 0, 0, 61) := rfl
theorem i_M_item_61 : ins m_M_item 61 = some (.putfield 242, 3, 1132, 0, 64) := rfl
theorem i_M_item_64 : ins m_M_item 64 = some (.aload_n 0, 1, 0, 0, 65) := rfl
theorem i_M_item_65 : ins m_M_item 65 = some (.getfield 31, 3, 1111, 0, 68) := rfl
theorem i_M_item_68 : ins m_M_item 68 = some (.iload_n 3, 1, 0, 0, 69) := rfl
theorem i_M_item_69 : ins m_M_item 69 = some (.iload_n 1, 1, 0, 0, 70) := rfl
theorem i_M_item_70 : ins m_M_item 70 = some (.iastore, 1, 0, 0, 71) := rfl
theorem i_M_item_71 : ins m_M_item 71 = some (.aload_n 0, 1, 0, 0, 72) := rfl
theorem i_M_item_72 : ins m_M_item 72 = some (.getfield 34, 3, 1112, 0, 75) := rfl
theorem i_M_item_75 : ins m_M_item 75 = some (.iload_n 3, 1, 0, 0, 76) := rfl
theorem i_M_item_76 : ins m_M_item 76 = some (.iload_n 2, 1, 0, 0, 77) := rfl
theorem i_M_item_77 : ins m_M_item 77 = some (.iastore, 1, 0, 0, 78) := rfl
theorem i_M_item_78 : ins m_M_item 78 = some (.aload_n 0, 1, 0, 0, 79) := rfl
theorem i_M_item_79 : ins m_M_item 79 = some (.getfield 37, 3, 1113, 0, 82) := rfl
theorem i_M_item_82 : ins m_M_item 82 = some (.iload_n 3, 1, 0, 0, 83) := rfl
theorem i_M_item_83 : ins m_M_item 83 = some (.iconst (-1), 1, 0, 0, 84) := rfl
theorem i_M_item_84 : ins m_M_item 84 = some (.iastore, 1, 0, 0, 85) := rfl
theorem i_M_item_85 : ins m_M_item 85 = some (.iload_n 3, 1, 0, 0, 86) := rfl
theorem i_M_item_86 : ins m_M_item 86 = some (.ireturn, 1, 0, 0, 87) := rfl
theorem i_M_begins_0 : ins m_M_begins 0 = some (.aload_n 0, 1, 0, 0, 1) := rfl
theorem i_M_begins_1 : ins m_M_begins 1 = some (.getfield 169, 3, 1126, 0, 4) := rfl
theorem i_M_begins_4 : ins m_M_begins 4 = some (.ifCond .lt 5, 3, 9, 0, 7) := rfl
theorem i_M_begins_7 : ins m_M_begins 7 = some (.iconst 0, 1, 0, 0, 8) := rfl
theorem i_M_begins_8 : ins m_M_begins 8 = some (.ireturn, 1, 0, 0, 9) := rfl
theorem i_M_begins_9 : ins m_M_begins 9 = some (.aload_n 0, 1, 0, 0, 10) := rfl
theorem i_M_begins_10 : ins m_M_begins 10 = some (.invokevirtual 172, 3, 116, 0, 13) := rfl
theorem i_M_begins_13 : ins m_M_begins 13 = some (.aload_n 0, 1, 0, 0, 14) := rfl
theorem i_M_begins_14 : ins m_M_begins 14 = some (.bipush 39, 2, 0, 0, 16) := rfl
theorem i_M_begins_16 : ins m_M_begins 16 = some (.bipush 39, 2, 0, 0, 18) := rfl
theorem i_M_begins_18 : ins m_M_begins 18 = some (.invokevirtual 165, 3, 115, 2, 21) := rfl
theorem i_M_begins_21 : ins m_M_begins 21 = some (.ifCond .ne 47, 3, 68, 0, 24) := rfl
theorem i_M_begins_24 : ins m_M_begins 24 = some (.aload_n 0, 1, 0, 0, 25) := rfl
theorem i_M_begins_25 : ins m_M_begins 25 = some (.bipush 91, 2, 0, 0, 27) := rfl
theorem i_M_begins_27 : ins m_M_begins 27 = some (.bipush 91, 2, 0, 0, 29) := rfl
theorem i_M_begins_29 : ins m_M_begins 29 = some (.invokevirtual 165, 3, 115, 2, 32) := rfl
theorem i_M_begins_32 : ins m_M_begins 32 = some (.ifCond .ne 36, 3, 68, 0, 35) := rfl
theorem i_M_begins_35 : ins m_M_begins 35 = some (.aload_n 0, 1, 0, 0, 36) := rfl
theorem i_M_begins_36 : ins m_M_begins 36 = some (.bipush 40, 2, 0, 0, 38) := rfl
theorem i_M_begins_38 : ins m_M_begins 38 = some (.bipush 40, 2, 0, 0, 40) := rfl
theorem i_M_begins_40 : ins m_M_begins 40 = some (.invokevirtual 165, 3, 115, 2, 43) := rfl
theorem i_M_begins_43 : ins m_M_begins 43 = some (.ifCond .ne 25, 3, 68, 0, 46) := rfl
theorem i_M_begins_46 : ins m_M_begins 46 = some (.aload_n 0, 1, 0, 0, 47) := rfl
theorem i_M_begins_47 : ins m_M_begins 47 = some (.bipush 65, 2, 0, 0, 49) := rfl
theorem i_M_begins_49 : ins m_M_begins 49 = some (.bipush 72, 2, 0, 0, 51) := rfl
theorem i_M_begins_51 : ins m_M_begins 51 = some (.invokevirtual 165, 3, 115, 2, 54) := rfl
theorem i_M_begins_54 : ins m_M_begins 54 = some (.ifCond .ne 14, 3, 68, 0, 57) := rfl
theorem i_M_begins_57 : ins m_M_begins 57 = some (.aload_n 0, 1, 0, 0, 58) := rfl
theorem i_M_begins_58 : ins m_M_begins 58 = some (.bipush 97, 2, 0, 0, 60) := rfl
theorem i_M_begins_60 : ins m_M_begins 60 = some (.bipush 122, 2, 0, 0, 62) := rfl
theorem i_M_begins_62 : ins m_M_begins 62 = some (.invokevirtual 165, 3, 115, 2, 65) := rfl
theorem i_M_begins_65 : ins m_M_begins 65 = some (.ifCond .eq 7, 3, 72, 0, 68) := rfl
theorem i_M_begins_68 : ins m_M_begins 68 = some (.iconst 1, 1, 0, 0, 69) := rfl
theorem i_M_begins_69 : ins m_M_begins 69 = some (.goto 4, 3, 73, 0, 72) := rfl
theorem i_M_begins_72 : ins m_M_begins 72 = some (.iconst 0, 1, 0, 0, 73) := rfl
theorem i_M_begins_73 : ins m_M_begins 73 = some (.ireturn, 1, 0, 0, 74) := rfl
theorem i_M_seq_0 : ins m_M_seq 0 = some (.aload_n 0, 1, 0, 0, 1) := rfl
theorem i_M_seq_1 : ins m_M_seq 1 = some (.getfield 245, 3, 1131, 0, 4) := rfl
theorem i_M_seq_4 : ins m_M_seq 4 = some (.istore_n 1, 1, 0, 0, 5) := rfl
theorem i_M_seq_5 : ins m_M_seq 5 = some (.aload_n 0, 1, 0, 0, 6) := rfl
theorem i_M_seq_6 : ins m_M_seq 6 = some (.dup, 1, 0, 0, 7) := rfl
theorem i_M_seq_7 : ins m_M_seq 7 = some (.getfield 245, 3, 1131, 0, 10) := rfl
theorem i_M_seq_10 : ins m_M_seq 10 = some (.iconst 1, 1, 0, 0, 11) := rfl
theorem i_M_seq_11 : ins m_M_seq 11 = some (.iadd, 1, 0, 0, 12) := rfl
theorem i_M_seq_12 : ins m_M_seq 12 = some (.putfield 245, 3, 1131, 0, 15) := rfl
theorem i_M_seq_15 : ins m_M_seq 15 = some (.aload_n 0, 1, 0, 0, 16) := rfl
theorem i_M_seq_16 : ins m_M_seq 16 = some (.getfield 28, 3, 1110, 0, 19) := rfl
theorem i_M_seq_19 : ins m_M_seq 19 = some (.iload_n 1, 1, 0, 0, 20) := rfl
theorem i_M_seq_20 : ins m_M_seq 20 = some (.iconst (-1), 1, 0, 0, 21) := rfl
theorem i_M_seq_21 : ins m_M_seq 21 = some (.iastore, 1, 0, 0, 22) := rfl
theorem i_M_seq_22 : ins m_M_seq 22 = some (.aload_n 0, 1, 0, 0, 23) := rfl
theorem i_M_seq_23 : ins m_M_seq 23 = some (.invokevirtual 248, 3, 128, 0, 26) := rfl
theorem i_M_seq_26 : ins m_M_seq 26 = some (.istore_n 2, 1, 0, 0, 27) := rfl
theorem i_M_seq_27 : ins m_M_seq 27 = some (.aload_n 0, 1, 0, 0, 28) := rfl
theorem i_M_seq_28 : ins m_M_seq 28 = some (.getfield 25, 3, 1109, 0, 31) := rfl
theorem i_M_seq_31 : ins m_M_seq 31 = some (.iload_n 1, 1, 0, 0, 32) := rfl
theorem i_M_seq_32 : ins m_M_seq 32 = some (.iload_n 2, 1, 0, 0, 33) := rfl
theorem i_M_seq_33 : ins m_M_seq 33 = some (.iastore, 1, 0, 0, 34) := rfl
theorem i_M_seq_34 : ins m_M_seq 34 = some (.aload_n 0, 1, 0, 0, 35) := rfl
theorem i_M_seq_35 : ins m_M_seq 35 = some (.invokevirtual 251, 3, 129, 0, 38) := rfl
theorem i_M_seq_38 : ins m_M_seq 38 = some (.ifCond .eq 20, 3, 58, 0, 41) := rfl
theorem i_M_seq_41 : ins m_M_seq 41 = some (.aload_n 0, 1, 0, 0, 42) := rfl
theorem i_M_seq_42 : ins m_M_seq 42 = some (.invokevirtual 248, 3, 128, 0, 45) := rfl
theorem i_M_seq_45 : ins m_M_seq 45 = some (.istore_n 3, 1, 0, 0, 46) := rfl
theorem i_M_seq_46 : ins m_M_seq 46 = some (.aload_n 0, 1, 0, 0, 47) := rfl
theorem i_M_seq_47 : ins m_M_seq 47 = some (.getfield 37, 3, 1113, 0, 50) := rfl
theorem i_M_seq_50 : ins m_M_seq 50 = some (.iload_n 2, 1, 0, 0, 51) := rfl
theorem i_M_seq_51 : ins m_M_seq 51 = some (.iload_n 3, 1, 0, 0, 52) := rfl
theorem i_M_seq_52 : ins m_M_seq 52 = some (.iastore, 1, 0, 0, 53) := rfl
theorem i_M_seq_53 : ins m_M_seq 53 = some (.iload_n 3, 1, 0, 0, 54) := rfl
theorem i_M_seq_54 : ins m_M_seq 54 = some (.istore_n 2, 1, 0, 0, 55) := rfl
theorem i_M_seq_55 : ins m_M_seq 55 = some (.goto (-21), 3, 34, 0, 58) := rfl
theorem i_M_seq_58 : ins m_M_seq 58 = some (.iload_n 1, 1, 0, 0, 59) := rfl
theorem i_M_seq_59 : ins m_M_seq 59 = some (.ireturn, 1, 0, 0, 60) := rfl
theorem i_M_alt_0 : ins m_M_alt 0 = some (.aload_n 0, 1, 0, 0, 1) := rfl
theorem i_M_alt_1 : ins m_M_alt 1 = some (.getfield 169, 3, 1126, 0, 4) := rfl
theorem i_M_alt_4 : ins m_M_alt 4 = some (.ifCond .lt 5, 3, 9, 0, 7) := rfl
theorem i_M_alt_7 : ins m_M_alt 7 = some (.iconst 0, 1, 0, 0, 8) := rfl
theorem i_M_alt_8 : ins m_M_alt 8 = some (.ireturn, 1, 0, 0, 9) := rfl
theorem i_M_alt_9 : ins m_M_alt 9 = some (.aload_n 0, 1, 0, 0, 10) := rfl
theorem i_M_alt_10 : ins m_M_alt 10 = some (.getfield 255, 3, 1130, 0, 13) := rfl
theorem i_M_alt_13 : ins m_M_alt 13 = some (.istore_n 1, 1, 0, 0, 14) := rfl
theorem i_M_alt_14 : ins m_M_alt 14 = some (.aload_n 0, 1, 0, 0, 15) := rfl
theorem i_M_alt_15 : ins m_M_alt 15 = some (.dup, 1, 0, 0, 16) := rfl
theorem i_M_alt_16 : ins m_M_alt 16 = some (.getfield 255, 3, 1130, 0, 19) := rfl
theorem i_M_alt_19 : ins m_M_alt 19 = some (.iconst 1, 1, 0, 0, 20) := rfl
theorem i_M_alt_20 : ins m_M_alt 20 = some (.iadd, 1, 0, 0, 21) := rfl
theorem i_M_alt_21 : ins m_M_alt 21 = some (.putfield 255, 3, 1130, 0, 24) := rfl
theorem i_M_alt_24 : ins m_M_alt 24 = some (.aload_n 0, 1, 0, 0, 25) := rfl
theorem i_M_alt_25 : ins m_M_alt 25 = some (.invokevirtual 258, 3, 130, 0, 28) := rfl
theorem i_M_alt_28 : ins m_M_alt 28 = some (.istore_n 2, 1, 0, 0, 29) := rfl
theorem i_M_alt_29 : ins m_M_alt 29 = some (.aload_n 0, 1, 0, 0, 30) := rfl
theorem i_M_alt_30 : ins m_M_alt 30 = some (.getfield 22, 3, 1108, 0, 33) := rfl
theorem i_M_alt_33 : ins m_M_alt 33 = some (.iload_n 1, 1, 0, 0, 34) := rfl
theorem i_M_alt_34 : ins m_M_alt 34 = some (.iload_n 2, 1, 0, 0, 35) := rfl
theorem i_M_alt_35 : ins m_M_alt 35 = some (.iastore, 1, 0, 0, 36) := rfl
theorem i_M_alt_36 : ins m_M_alt 36 = some (.aload_n 0, 1, 0, 0, 37) := rfl
theorem i_M_alt_37 : ins m_M_alt 37 = some (.bipush 124, 2, 0, 0, 39) := rfl
theorem i_M_alt_39 : ins m_M_alt 39 = some (.invokevirtual 175, 3, 118, 1, 42) := rfl
theorem i_M_alt_42 : ins m_M_alt 42 = some (.ifCond .eq 20, 3, 62, 0, 45) := rfl
theorem i_M_alt_45 : ins m_M_alt 45 = some (.aload_n 0, 1, 0, 0, 46) := rfl
theorem i_M_alt_46 : ins m_M_alt 46 = some (.invokevirtual 258, 3, 130, 0, 49) := rfl
theorem i_M_alt_49 : ins m_M_alt 49 = some (.istore_n 3, 1, 0, 0, 50) := rfl
theorem i_M_alt_50 : ins m_M_alt 50 = some (.aload_n 0, 1, 0, 0, 51) := rfl
theorem i_M_alt_51 : ins m_M_alt 51 = some (.getfield 28, 3, 1110, 0, 54) := rfl
theorem i_M_alt_54 : ins m_M_alt 54 = some (.iload_n 2, 1, 0, 0, 55) := rfl
theorem i_M_alt_55 : ins m_M_alt 55 = some (.iload_n 3, 1, 0, 0, 56) := rfl
theorem i_M_alt_56 : ins m_M_alt 56 = some (.iastore, 1, 0, 0, 57) := rfl
theorem i_M_alt_57 : ins m_M_alt 57 = some (.iload_n 3, 1, 0, 0, 58) := rfl
theorem i_M_alt_58 : ins m_M_alt 58 = some (.istore_n 2, 1, 0, 0, 59) := rfl
theorem i_M_alt_59 : ins m_M_alt 59 = some (.goto (-23), 3, 36, 0, 62) := rfl
theorem i_M_alt_62 : ins m_M_alt 62 = some (.iload_n 1, 1, 0, 0, 63) := rfl
theorem i_M_alt_63 : ins m_M_alt 63 = some (.ireturn, 1, 0, 0, 64) := rfl
theorem i_M_reads_0 : ins m_M_reads 0 = some (.aload_n 0, 1, 0, 0, 1) := rfl
theorem i_M_reads_1 : ins m_M_reads 1 = some (.iload_n 1, 1, 0, 0, 2) := rfl
theorem i_M_reads_2 : ins m_M_reads 2 = some (.putfield 192, 3, 1136, 0, 5) := rfl
theorem i_M_reads_5 : ins m_M_reads 5 = some (.aload_n 0, 1, 0, 0, 6) := rfl
theorem i_M_reads_6 : ins m_M_reads 6 = some (.iconst 0, 1, 0, 0, 7) := rfl
theorem i_M_reads_7 : ins m_M_reads 7 = some (.putfield 162, 3, 1125, 0, 10) := rfl
theorem i_M_reads_10 : ins m_M_reads 10 = some (.aload_n 0, 1, 0, 0, 11) := rfl
theorem i_M_reads_11 : ins m_M_reads 11 = some (.iconst (-1), 1, 0, 0, 12) := rfl
theorem i_M_reads_12 : ins m_M_reads 12 = some (.putfield 169, 3, 1126, 0, 15) := rfl
theorem i_M_reads_15 : ins m_M_reads 15 = some (.aload_n 0, 1, 0, 0, 16) := rfl
theorem i_M_reads_16 : ins m_M_reads 16 = some (.iconst 0, 1, 0, 0, 17) := rfl
theorem i_M_reads_17 : ins m_M_reads 17 = some (.putfield 183, 3, 1127, 0, 20) := rfl
theorem i_M_reads_20 : ins m_M_reads 20 = some (.aload_n 0, 1, 0, 0, 21) := rfl
theorem i_M_reads_21 : ins m_M_reads 21 = some (.iconst 0, 1, 0, 0, 22) := rfl
theorem i_M_reads_22 : ins m_M_reads 22 = some (.putfield 261, 3, 1128, 0, 25) := rfl
theorem i_M_reads_25 : ins m_M_reads 25 = some (.aload_n 0, 1, 0, 0, 26) := rfl
theorem i_M_reads_26 : ins m_M_reads 26 = some (.iconst 0, 1, 0, 0, 27) := rfl
theorem i_M_reads_27 : ins m_M_reads 27 = some (.putfield 189, 3, 1129, 0, 30) := rfl
theorem i_M_reads_30 : ins m_M_reads 30 = some (.aload_n 0, 1, 0, 0, 31) := rfl
theorem i_M_reads_31 : ins m_M_reads 31 = some (.iconst 0, 1, 0, 0, 32) := rfl
theorem i_M_reads_32 : ins m_M_reads 32 = some (.putfield 255, 3, 1130, 0, 35) := rfl
theorem i_M_reads_35 : ins m_M_reads 35 = some (.aload_n 0, 1, 0, 0, 36) := rfl
theorem i_M_reads_36 : ins m_M_reads 36 = some (.iconst 0, 1, 0, 0, 37) := rfl
theorem i_M_reads_37 : ins m_M_reads 37 = some (.putfield 245, 3, 1131, 0, 40) := rfl
theorem i_M_reads_40 : ins m_M_reads 40 = some (.aload_n 0, 1, 0, 0, 41) := rfl
theorem i_M_reads_41 : ins m_M_reads 41 = some (.iconst 0, 1, 0, 0, 42) := rfl
theorem i_M_reads_42 : ins m_M_reads 42 = some (.putfield 242, 3, 1132, 0, 45) := rfl
theorem i_M_reads_45 : ins m_M_reads 45 = some (.aload_n 0, 1, 0, 0, 46) := rfl
theorem i_M_reads_46 : ins m_M_reads 46 = some (.iconst 0, 1, 0, 0, 47) := rfl
theorem i_M_reads_47 : ins m_M_reads 47 = some (.putfield 198, 3, 1133, 0, 50) := rfl
theorem i_M_reads_50 : ins m_M_reads 50 = some (.aload_n 0, 1, 0, 0, 51) := rfl
theorem i_M_reads_51 : ins m_M_reads 51 = some (.iconst 0, 1, 0, 0, 52) := rfl
theorem i_M_reads_52 : ins m_M_reads 52 = some (.putfield 223, 3, 1134, 0, 55) := rfl
theorem i_M_reads_55 : ins m_M_reads 55 = some (.iconst 0, 1, 0, 0, 56) := rfl
theorem i_M_reads_56 : ins m_M_reads 56 = some (.istore_n 2, 1, 0, 0, 57) := rfl
theorem i_M_reads_57 : ins m_M_reads 57 = some (.iconst 1, 1, 0, 0, 58) := rfl
theorem i_M_reads_58 : ins m_M_reads 58 = some (.istore_n 3, 1, 0, 0, 59) := rfl
theorem i_M_reads_59 : ins m_M_reads 59 = some (.iload_n 3, 1, 0, 0, 60) := rfl
theorem i_M_reads_60 : ins m_M_reads 60 = some (.ifCond .eq 157, 3, 217, 0, 63) := rfl
theorem i_M_reads_63 : ins m_M_reads 63 = some (.aload_n 0, 1, 0, 0, 64) := rfl
theorem i_M_reads_64 : ins m_M_reads 64 = some (.invokevirtual 172, 3, 116, 0, 67) := rfl
theorem i_M_reads_67 : ins m_M_reads 67 = some (.aload_n 0, 1, 0, 0, 68) := rfl
theorem i_M_reads_68 : ins m_M_reads 68 = some (.bipush 65, 2, 0, 0, 70) := rfl
theorem i_M_reads_70 : ins m_M_reads 70 = some (.bipush 72, 2, 0, 0, 72) := rfl
theorem i_M_reads_72 : ins m_M_reads 72 = some (.invokevirtual 165, 3, 115, 2, 75) := rfl
theorem i_M_reads_75 : ins m_M_reads 75 = some (.ifCond .eq 23, 3, 98, 0, 78) := rfl
theorem i_M_reads_78 : ins m_M_reads 78 = some (.iload_n 2, 1, 0, 0, 79) := rfl
theorem i_M_reads_79 : ins m_M_reads 79 = some (.aload_n 0, 1, 0, 0, 80) := rfl
theorem i_M_reads_80 : ins m_M_reads 80 = some (.getfield 9, 3, 1100, 0, 83) := rfl
theorem i_M_reads_83 : ins m_M_reads 83 = some (.aload_n 0, 1, 0, 0, 84) := rfl
theorem i_M_reads_84 : ins m_M_reads 84 = some (.getfield 162, 3, 1125, 0, 87) := rfl
theorem i_M_reads_87 : ins m_M_reads 87 = some (.iaload, 1, 0, 0, 88) := rfl
theorem i_M_reads_88 : ins m_M_reads 88 = some (.bipush 65, 2, 0, 0, 90) := rfl
theorem i_M_reads_90 : ins m_M_reads 90 = some (.isub, 1, 0, 0, 91) := rfl
theorem i_M_reads_91 : ins m_M_reads 91 = some (.ishr, 1, 0, 0, 92) := rfl
theorem i_M_reads_92 : ins m_M_reads 92 = some (.iconst 1, 1, 0, 0, 93) := rfl
theorem i_M_reads_93 : ins m_M_reads 93 = some (.iand, 1, 0, 0, 94) := rfl
theorem i_M_reads_94 : ins m_M_reads 94 = some (.iconst 1, 1, 0, 0, 95) := rfl
theorem i_M_reads_95 : ins m_M_reads 95 = some (.if_icmp .ne 12, 3, 107, 0, 98) := rfl
theorem i_M_reads_98 : ins m_M_reads 98 = some (.aload_n 0, 1, 0, 0, 99) := rfl
theorem i_M_reads_99 : ins m_M_reads 99 = some (.aload_n 0, 1, 0, 0, 100) := rfl
theorem i_M_reads_100 : ins m_M_reads 100 = some (.getfield 162, 3, 1125, 0, 103) := rfl
theorem i_M_reads_103 : ins m_M_reads 103 = some (.invokevirtual 179, 3, 117, 1, 106) := rfl
theorem i_M_reads_106 : ins m_M_reads 106 = some (.return_, 1, 0, 0, 107) := rfl
theorem i_M_reads_107 : ins m_M_reads 107 = some (.aload_n 0, 1, 0, 0, 108) := rfl
theorem i_M_reads_108 : ins m_M_reads 108 = some (.aload_n 0, 1, 0, 0, 109) := rfl
theorem i_M_reads_109 : ins m_M_reads 109 = some (.getfield 9, 3, 1100, 0, 112) := rfl
theorem i_M_reads_112 : ins m_M_reads 112 = some (.aload_n 0, 1, 0, 0, 113) := rfl
theorem i_M_reads_113 : ins m_M_reads 113 = some (.getfield 162, 3, 1125, 0, 116) := rfl
theorem i_M_reads_116 : ins m_M_reads 116 = some (.iaload, 1, 0, 0, 117) := rfl
theorem i_M_reads_117 : ins m_M_reads 117 = some (.bipush 65, 2, 0, 0, 119) := rfl
theorem i_M_reads_119 : ins m_M_reads 119 = some (.isub, 1, 0, 0, 120) := rfl
theorem i_M_reads_120 : ins m_M_reads 120 = some (.putfield 195, 3, 1137, 0, 123) := rfl
theorem i_M_reads_123 : ins m_M_reads 123 = some (.iload_n 2, 1, 0, 0, 124) := rfl
theorem i_M_reads_124 : ins m_M_reads 124 = some (.iconst 1, 1, 0, 0, 125) := rfl
theorem i_M_reads_125 : ins m_M_reads 125 = some (.aload_n 0, 1, 0, 0, 126) := rfl
theorem i_M_reads_126 : ins m_M_reads 126 = some (.getfield 195, 3, 1137, 0, 129) := rfl
theorem i_M_reads_129 : ins m_M_reads 129 = some (.ishl, 1, 0, 0, 130) := rfl
theorem i_M_reads_130 : ins m_M_reads 130 = some (.ior, 1, 0, 0, 131) := rfl
theorem i_M_reads_131 : ins m_M_reads 131 = some (.istore_n 2, 1, 0, 0, 132) := rfl
theorem i_M_reads_132 : ins m_M_reads 132 = some (.aload_n 0, 1, 0, 0, 133) := rfl
theorem i_M_reads_133 : ins m_M_reads 133 = some (.dup, 1, 0, 0, 134) := rfl
theorem i_M_reads_134 : ins m_M_reads 134 = some (.getfield 162, 3, 1125, 0, 137) := rfl
theorem i_M_reads_137 : ins m_M_reads 137 = some (.iconst 1, 1, 0, 0, 138) := rfl
theorem i_M_reads_138 : ins m_M_reads 138 = some (.iadd, 1, 0, 0, 139) := rfl
theorem i_M_reads_139 : ins m_M_reads 139 = some (.putfield 162, 3, 1125, 0, 142) := rfl
theorem i_M_reads_142 : ins m_M_reads 142 = some (.aload_n 0, 1, 0, 0, 143) := rfl
theorem i_M_reads_143 : ins m_M_reads 143 = some (.bipush 61, 2, 0, 0, 145) := rfl
theorem i_M_reads_145 : ins m_M_reads 145 = some (.invokevirtual 186, 3, 119, 1, 148) := rfl
theorem i_M_reads_148 : ins m_M_reads 148 = some (.aload_n 0, 1, 0, 0, 149) := rfl
theorem i_M_reads_149 : ins m_M_reads 149 = some (.invokevirtual 229, 3, 131, 0, 152) := rfl
theorem i_M_reads_152 : ins m_M_reads 152 = some (.istore 4, 2, 0, 0, 154) := rfl
theorem i_M_reads_154 : ins m_M_reads 154 = some (.aload_n 0, 1, 0, 0, 155) := rfl
theorem i_M_reads_155 : ins m_M_reads 155 = some (.bipush 59, 2, 0, 0, 157) := rfl
theorem i_M_reads_157 : ins m_M_reads 157 = some (.invokevirtual 186, 3, 119, 1, 160) := rfl
theorem i_M_reads_160 : ins m_M_reads 160 = some (.aload_n 0, 1, 0, 0, 161) := rfl
theorem i_M_reads_161 : ins m_M_reads 161 = some (.getfield 169, 3, 1126, 0, 164) := rfl
theorem i_M_reads_164 : ins m_M_reads 164 = some (.ifCond .lt 4, 3, 168, 0, 167) := rfl
theorem i_M_reads_167 : ins m_M_reads 167 = some (.return_, 1, 0, 0, 168) := rfl
theorem i_M_reads_168 : ins m_M_reads 168 = some (.iload_n 1, 1, 0, 0, 169) := rfl
theorem i_M_reads_169 : ins m_M_reads 169 = some (.ifCond .eq 14, 3, 183, 0, 172) := rfl
theorem i_M_reads_172 : ins m_M_reads 172 = some (.aload_n 0, 1, 0, 0, 173) := rfl
theorem i_M_reads_173 : ins m_M_reads 173 = some (.getfield 19, 3, 1107, 0, 176) := rfl
theorem i_M_reads_176 : ins m_M_reads 176 = some (.aload_n 0, 1, 0, 0, 177) := rfl
theorem i_M_reads_177 : ins m_M_reads 177 = some (.getfield 195, 3, 1137, 0, 180) := rfl
theorem i_M_reads_180 : ins m_M_reads 180 = some (.iload 4, 2, 0, 0, 182) := rfl
theorem i_M_reads_182 : ins m_M_reads 182 = some (.iastore, 1, 0, 0, 183) := rfl
theorem i_M_reads_183 : ins m_M_reads 183 = some (.aload_n 0, 1, 0, 0, 184) := rfl
theorem i_M_reads_184 : ins m_M_reads 184 = some (.dup, 1, 0, 0, 185) := rfl
theorem i_M_reads_185 : ins m_M_reads 185 = some (.getfield 261, 3, 1128, 0, 188) := rfl
theorem i_M_reads_188 : ins m_M_reads 188 = some (.iconst 1, 1, 0, 0, 189) := rfl
theorem i_M_reads_189 : ins m_M_reads 189 = some (.iadd, 1, 0, 0, 190) := rfl
theorem i_M_reads_190 : ins m_M_reads 190 = some (.putfield 261, 3, 1128, 0, 193) := rfl
theorem i_M_reads_193 : ins m_M_reads 193 = some (.aload_n 0, 1, 0, 0, 194) := rfl
theorem i_M_reads_194 : ins m_M_reads 194 = some (.invokevirtual 172, 3, 116, 0, 197) := rfl
theorem i_M_reads_197 : ins m_M_reads 197 = some (.aload_n 0, 1, 0, 0, 198) := rfl
theorem i_M_reads_198 : ins m_M_reads 198 = some (.getfield 162, 3, 1125, 0, 201) := rfl
theorem i_M_reads_201 : ins m_M_reads 201 = some (.aload_n 0, 1, 0, 0, 202) := rfl
theorem i_M_reads_202 : ins m_M_reads 202 = some (.getfield 151, 3, 1103, 0, 205) := rfl
theorem i_M_reads_205 : ins m_M_reads 205 = some (.if_icmp .ge 7, 3, 212, 0, 208) := rfl
theorem i_M_reads_208 : ins m_M_reads 208 = some (.iconst 1, 1, 0, 0, 209) := rfl
theorem i_M_reads_209 : ins m_M_reads 209 = some (.goto 4, 3, 213, 0, 212) := rfl
theorem i_M_reads_212 : ins m_M_reads 212 = some (.iconst 0, 1, 0, 0, 213) := rfl
theorem i_M_reads_213 : ins m_M_reads 213 = some (.istore_n 3, 1, 0, 0, 214) := rfl
theorem i_M_reads_214 : ins m_M_reads 214 = some (.goto (-155), 3, 59, 0, 217) := rfl
theorem i_M_reads_217 : ins m_M_reads 217 = some (.iconst 0, 1, 0, 0, 218) := rfl
theorem i_M_reads_218 : ins m_M_reads 218 = some (.istore 4, 2, 0, 0, 220) := rfl
theorem i_M_reads_220 : ins m_M_reads 220 = some (.iload 4, 2, 0, 0, 222) := rfl
theorem i_M_reads_222 : ins m_M_reads 222 = some (.aload_n 0, 1, 0, 0, 223) := rfl
theorem i_M_reads_223 : ins m_M_reads 223 = some (.getfield 223, 3, 1134, 0, 226) := rfl
theorem i_M_reads_226 : ins m_M_reads 226 = some (.if_icmp .ge 35, 3, 261, 0, 229) := rfl
theorem i_M_reads_229 : ins m_M_reads 229 = some (.iload_n 2, 1, 0, 0, 230) := rfl
theorem i_M_reads_230 : ins m_M_reads 230 = some (.aload_n 0, 1, 0, 0, 231) := rfl
theorem i_M_reads_231 : ins m_M_reads 231 = some (.getfield 77, 3, 1139, 0, 234) := rfl
theorem i_M_reads_234 : ins m_M_reads 234 = some (.iload 4, 2, 0, 0, 236) := rfl
theorem i_M_reads_236 : ins m_M_reads 236 = some (.iaload, 1, 0, 0, 237) := rfl
theorem i_M_reads_237 : ins m_M_reads 237 = some (.ishr, 1, 0, 0, 238) := rfl
theorem i_M_reads_238 : ins m_M_reads 238 = some (.iconst 1, 1, 0, 0, 239) := rfl
theorem i_M_reads_239 : ins m_M_reads 239 = some (.iand, 1, 0, 0, 240) := rfl
theorem i_M_reads_240 : ins m_M_reads 240 = some (.ifCond .ne 15, 3, 255, 0, 243) := rfl
theorem i_M_reads_243 : ins m_M_reads 243 = some (.aload_n 0, 1, 0, 0, 244) := rfl
theorem i_M_reads_244 : ins m_M_reads 244 = some (.aload_n 0, 1, 0, 0, 245) := rfl
theorem i_M_reads_245 : ins m_M_reads 245 = some (.getfield 74, 3, 1138, 0, 248) := rfl
theorem i_M_reads_248 : ins m_M_reads 248 = some (.iload 4, 2, 0, 0, 250) := rfl
theorem i_M_reads_250 : ins m_M_reads 250 = some (.iaload, 1, 0, 0, 251) := rfl
theorem i_M_reads_251 : ins m_M_reads 251 = some (.invokevirtual 179, 3, 117, 1, 254) := rfl
theorem i_M_reads_254 : ins m_M_reads 254 = some (.return_, 1, 0, 0, 255) := rfl
theorem i_M_reads_255 : ins m_M_reads 255 = some (.iinc 4 1, 3, 0, 0, 258) := rfl
theorem i_M_reads_258 : ins m_M_reads 258 = some (.goto (-38), 3, 220, 0, 261) := rfl
theorem i_M_reads_261 : ins m_M_reads 261 = some (.return_, 1, 0, 0, 262) := rfl
theorem i_M_row_0 : ins m_M_row 0 = some (.iload_n 1, 1, 0, 0, 1) := rfl
theorem i_M_row_1 : ins m_M_row 1 = some (.tableswitch 96 0 8 #[51, 56, 61, 66, 71, 76, 81, 86, 91], 51, 0, 0, 52) := rfl
theorem i_M_row_52 : ins m_M_row 52 = some (.aload_n 0, 1, 0, 0, 53) := rfl
theorem i_M_row_53 : ins m_M_row 53 = some (.getfield 22, 3, 1108, 0, 56) := rfl
theorem i_M_row_56 : ins m_M_row 56 = some (.areturn, 1, 0, 0, 57) := rfl
theorem i_M_row_57 : ins m_M_row 57 = some (.aload_n 0, 1, 0, 0, 58) := rfl
theorem i_M_row_58 : ins m_M_row 58 = some (.getfield 25, 3, 1109, 0, 61) := rfl
theorem i_M_row_61 : ins m_M_row 61 = some (.areturn, 1, 0, 0, 62) := rfl
theorem i_M_row_62 : ins m_M_row 62 = some (.aload_n 0, 1, 0, 0, 63) := rfl
theorem i_M_row_63 : ins m_M_row 63 = some (.getfield 28, 3, 1110, 0, 66) := rfl
theorem i_M_row_66 : ins m_M_row 66 = some (.areturn, 1, 0, 0, 67) := rfl
theorem i_M_row_67 : ins m_M_row 67 = some (.aload_n 0, 1, 0, 0, 68) := rfl
theorem i_M_row_68 : ins m_M_row 68 = some (.getfield 31, 3, 1111, 0, 71) := rfl
theorem i_M_row_71 : ins m_M_row 71 = some (.areturn, 1, 0, 0, 72) := rfl
theorem i_M_row_72 : ins m_M_row 72 = some (.aload_n 0, 1, 0, 0, 73) := rfl
theorem i_M_row_73 : ins m_M_row 73 = some (.getfield 34, 3, 1112, 0, 76) := rfl
theorem i_M_row_76 : ins m_M_row 76 = some (.areturn, 1, 0, 0, 77) := rfl
theorem i_M_row_77 : ins m_M_row 77 = some (.aload_n 0, 1, 0, 0, 78) := rfl
theorem i_M_row_78 : ins m_M_row 78 = some (.getfield 37, 3, 1113, 0, 81) := rfl
theorem i_M_row_81 : ins m_M_row 81 = some (.areturn, 1, 0, 0, 82) := rfl
theorem i_M_row_82 : ins m_M_row 82 = some (.aload_n 0, 1, 0, 0, 83) := rfl
theorem i_M_row_83 : ins m_M_row 83 = some (.getfield 40, 3, 1114, 0, 86) := rfl
theorem i_M_row_86 : ins m_M_row 86 = some (.areturn, 1, 0, 0, 87) := rfl
theorem i_M_row_87 : ins m_M_row 87 = some (.aload_n 0, 1, 0, 0, 88) := rfl
theorem i_M_row_88 : ins m_M_row 88 = some (.getfield 43, 3, 1115, 0, 91) := rfl
theorem i_M_row_91 : ins m_M_row 91 = some (.areturn, 1, 0, 0, 92) := rfl
theorem i_M_row_92 : ins m_M_row 92 = some (.aload_n 0, 1, 0, 0, 93) := rfl
theorem i_M_row_93 : ins m_M_row 93 = some (.getfield 46, 3, 1116, 0, 96) := rfl
theorem i_M_row_96 : ins m_M_row 96 = some (.areturn, 1, 0, 0, 97) := rfl
theorem i_M_row_97 : ins m_M_row 97 = some (.aload_n 0, 1, 0, 0, 98) := rfl
theorem i_M_row_98 : ins m_M_row 98 = some (.getfield 49, 3, 1117, 0, 101) := rfl
theorem i_M_row_101 : ins m_M_row 101 = some (.areturn, 1, 0, 0, 102) := rfl
theorem i_M_copies_0 : ins m_M_copies 0 = some (.iconst 0, 1, 0, 0, 1) := rfl
theorem i_M_copies_1 : ins m_M_copies 1 = some (.istore_n 2, 1, 0, 0, 2) := rfl
theorem i_M_copies_2 : ins m_M_copies 2 = some (.iload_n 2, 1, 0, 0, 3) := rfl
theorem i_M_copies_3 : ins m_M_copies 3 = some (.bipush 10, 2, 0, 0, 5) := rfl
theorem i_M_copies_5 : ins m_M_copies 5 = some (.if_icmp .ge 65, 3, 70, 0, 8) := rfl
theorem i_M_copies_8 : ins m_M_copies 8 = some (.aload_n 0, 1, 0, 0, 9) := rfl
theorem i_M_copies_9 : ins m_M_copies 9 = some (.iload_n 2, 1, 0, 0, 10) := rfl
theorem i_M_copies_10 : ins m_M_copies 10 = some (.invokevirtual 264, 3, 133, 1, 13) := rfl
theorem i_M_copies_13 : ins m_M_copies 13 = some (.astore_n 3, 1, 0, 0, 14) := rfl
theorem i_M_copies_14 : ins m_M_copies 14 = some (.iconst 0, 1, 0, 0, 15) := rfl
theorem i_M_copies_15 : ins m_M_copies 15 = some (.istore 4, 2, 0, 0, 17) := rfl
theorem i_M_copies_17 : ins m_M_copies 17 = some (.iload 4, 2, 0, 0, 19) := rfl
theorem i_M_copies_19 : ins m_M_copies 19 = some (.sipush 260, 3, 0, 0, 22) := rfl
theorem i_M_copies_22 : ins m_M_copies 22 = some (.if_icmp .ge 42, 3, 64, 0, 25) := rfl
theorem i_M_copies_25 : ins m_M_copies 25 = some (.iload_n 1, 1, 0, 0, 26) := rfl
theorem i_M_copies_26 : ins m_M_copies 26 = some (.ifCond .eq 19, 3, 45, 0, 29) := rfl
theorem i_M_copies_29 : ins m_M_copies 29 = some (.aload_n 0, 1, 0, 0, 30) := rfl
theorem i_M_copies_30 : ins m_M_copies 30 = some (.getfield 148, 3, 1183, 0, 33) := rfl
theorem i_M_copies_33 : ins m_M_copies 33 = some (.iload_n 2, 1, 0, 0, 34) := rfl
theorem i_M_copies_34 : ins m_M_copies 34 = some (.aaload, 1, 0, 0, 35) := rfl
theorem i_M_copies_35 : ins m_M_copies 35 = some (.iload 4, 2, 0, 0, 37) := rfl
theorem i_M_copies_37 : ins m_M_copies 37 = some (.aload_n 3, 1, 0, 0, 38) := rfl
theorem i_M_copies_38 : ins m_M_copies 38 = some (.iload 4, 2, 0, 0, 40) := rfl
theorem i_M_copies_40 : ins m_M_copies 40 = some (.iaload, 1, 0, 0, 41) := rfl
theorem i_M_copies_41 : ins m_M_copies 41 = some (.iastore, 1, 0, 0, 42) := rfl
theorem i_M_copies_42 : ins m_M_copies 42 = some (.goto 16, 3, 58, 0, 45) := rfl
theorem i_M_copies_45 : ins m_M_copies 45 = some (.aload_n 3, 1, 0, 0, 46) := rfl
theorem i_M_copies_46 : ins m_M_copies 46 = some (.iload 4, 2, 0, 0, 48) := rfl
theorem i_M_copies_48 : ins m_M_copies 48 = some (.aload_n 0, 1, 0, 0, 49) := rfl
theorem i_M_copies_49 : ins m_M_copies 49 = some (.getfield 148, 3, 1183, 0, 52) := rfl
theorem i_M_copies_52 : ins m_M_copies 52 = some (.iload_n 2, 1, 0, 0, 53) := rfl
theorem i_M_copies_53 : ins m_M_copies 53 = some (.aaload, 1, 0, 0, 54) := rfl
theorem i_M_copies_54 : ins m_M_copies 54 = some (.iload 4, 2, 0, 0, 56) := rfl
theorem i_M_copies_56 : ins m_M_copies 56 = some (.iaload, 1, 0, 0, 57) := rfl
theorem i_M_copies_57 : ins m_M_copies 57 = some (.iastore, 1, 0, 0, 58) := rfl
theorem i_M_copies_58 : ins m_M_copies 58 = some (.iinc 4 1, 3, 0, 0, 61) := rfl
theorem i_M_copies_61 : ins m_M_copies 61 = some (.goto (-44), 3, 17, 0, 64) := rfl
theorem i_M_copies_64 : ins m_M_copies 64 = some (.iinc 2 1, 3, 0, 0, 67) := rfl
theorem i_M_copies_67 : ins m_M_copies 67 = some (.goto (-65), 3, 2, 0, 70) := rfl
theorem i_M_copies_70 : ins m_M_copies 70 = some (.return_, 1, 0, 0, 71) := rfl
theorem i_M_grammar_0 : ins m_M_grammar 0 = some (.aload_n 0, 1, 0, 0, 1) := rfl
theorem i_M_grammar_1 : ins m_M_grammar 1 = some (.iconst 1, 1, 0, 0, 2) := rfl
theorem i_M_grammar_2 : ins m_M_grammar 2 = some (.invokevirtual 268, 3, 134, 1, 5) := rfl
theorem i_M_grammar_5 : ins m_M_grammar 5 = some (.aload_n 0, 1, 0, 0, 6) := rfl
theorem i_M_grammar_6 : ins m_M_grammar 6 = some (.iconst 0, 1, 0, 0, 7) := rfl
theorem i_M_grammar_7 : ins m_M_grammar 7 = some (.invokevirtual 272, 3, 132, 1, 10) := rfl
theorem i_M_grammar_10 : ins m_M_grammar 10 = some (.aload_n 0, 1, 0, 0, 11) := rfl
theorem i_M_grammar_11 : ins m_M_grammar 11 = some (.getfield 169, 3, 1126, 0, 14) := rfl
theorem i_M_grammar_14 : ins m_M_grammar 14 = some (.ifCond .lt 21, 3, 35, 0, 17) := rfl
theorem i_M_grammar_17 : ins m_M_grammar 17 = some (.aload_n 0, 1, 0, 0, 18) := rfl
theorem i_M_grammar_18 : ins m_M_grammar 18 = some (.iconst 0, 1, 0, 0, 19) := rfl
theorem i_M_grammar_19 : ins m_M_grammar 19 = some (.invokevirtual 268, 3, 134, 1, 22) := rfl
theorem i_M_grammar_22 : ins m_M_grammar 22 = some (.aload_n 0, 1, 0, 0, 23) := rfl
theorem i_M_grammar_23 : ins m_M_grammar 23 = some (.iconst 0, 1, 0, 0, 24) := rfl
theorem i_M_grammar_24 : ins m_M_grammar 24 = some (.putfield 151, 3, 1103, 0, 27) := rfl
theorem i_M_grammar_27 : ins m_M_grammar 27 = some (.bipush (-100), 2, 0, 0, 29) := rfl
theorem i_M_grammar_29 : ins m_M_grammar 29 = some (.aload_n 0, 1, 0, 0, 30) := rfl
theorem i_M_grammar_30 : ins m_M_grammar 30 = some (.getfield 169, 3, 1126, 0, 33) := rfl
theorem i_M_grammar_33 : ins m_M_grammar 33 = some (.isub, 1, 0, 0, 34) := rfl
theorem i_M_grammar_34 : ins m_M_grammar 34 = some (.ireturn, 1, 0, 0, 35) := rfl
theorem i_M_grammar_35 : ins m_M_grammar 35 = some (.iconst 0, 1, 0, 0, 36) := rfl
theorem i_M_grammar_36 : ins m_M_grammar 36 = some (.istore_n 1, 1, 0, 0, 37) := rfl
theorem i_M_grammar_37 : ins m_M_grammar 37 = some (.iload_n 1, 1, 0, 0, 38) := rfl
theorem i_M_grammar_38 : ins m_M_grammar 38 = some (.bipush 8, 2, 0, 0, 40) := rfl
theorem i_M_grammar_40 : ins m_M_grammar 40 = some (.if_icmp .ge 16, 3, 56, 0, 43) := rfl
theorem i_M_grammar_43 : ins m_M_grammar 43 = some (.aload_n 0, 1, 0, 0, 44) := rfl
theorem i_M_grammar_44 : ins m_M_grammar 44 = some (.getfield 19, 3, 1107, 0, 47) := rfl
theorem i_M_grammar_47 : ins m_M_grammar 47 = some (.iload_n 1, 1, 0, 0, 48) := rfl
theorem i_M_grammar_48 : ins m_M_grammar 48 = some (.iconst (-1), 1, 0, 0, 49) := rfl
theorem i_M_grammar_49 : ins m_M_grammar 49 = some (.iastore, 1, 0, 0, 50) := rfl
theorem i_M_grammar_50 : ins m_M_grammar 50 = some (.iinc 1 1, 3, 0, 0, 53) := rfl
theorem i_M_grammar_53 : ins m_M_grammar 53 = some (.goto (-16), 3, 37, 0, 56) := rfl
theorem i_M_grammar_56 : ins m_M_grammar 56 = some (.aload_n 0, 1, 0, 0, 57) := rfl
theorem i_M_grammar_57 : ins m_M_grammar 57 = some (.iconst 1, 1, 0, 0, 58) := rfl
theorem i_M_grammar_58 : ins m_M_grammar 58 = some (.invokevirtual 272, 3, 132, 1, 61) := rfl
theorem i_M_grammar_61 : ins m_M_grammar 61 = some (.aload_n 0, 1, 0, 0, 62) := rfl
theorem i_M_grammar_62 : ins m_M_grammar 62 = some (.iconst 0, 1, 0, 0, 63) := rfl
theorem i_M_grammar_63 : ins m_M_grammar 63 = some (.putfield 151, 3, 1103, 0, 66) := rfl
theorem i_M_grammar_66 : ins m_M_grammar 66 = some (.aload_n 0, 1, 0, 0, 67) := rfl
theorem i_M_grammar_67 : ins m_M_grammar 67 = some (.aload_n 0, 1, 0, 0, 68) := rfl
theorem i_M_grammar_68 : ins m_M_grammar 68 = some (.getfield 261, 3, 1128, 0, 71) := rfl
theorem i_M_grammar_71 : ins m_M_grammar 71 = some (.putfield 275, 3, 1105, 0, 74) := rfl
theorem i_M_grammar_74 : ins m_M_grammar 74 = some (.aload_n 0, 1, 0, 0, 75) := rfl
theorem i_M_grammar_75 : ins m_M_grammar 75 = some (.aload_n 0, 1, 0, 0, 76) := rfl
theorem i_M_grammar_76 : ins m_M_grammar 76 = some (.getfield 189, 3, 1129, 0, 79) := rfl
theorem i_M_grammar_79 : ins m_M_grammar 79 = some (.putfield 278, 3, 1106, 0, 82) := rfl
theorem i_M_grammar_82 : ins m_M_grammar 82 = some (.aload_n 0, 1, 0, 0, 83) := rfl
theorem i_M_grammar_83 : ins m_M_grammar 83 = some (.iconst 0, 1, 0, 0, 84) := rfl
theorem i_M_grammar_84 : ins m_M_grammar 84 = some (.putfield 158, 3, 1169, 0, 87) := rfl
theorem i_M_grammar_87 : ins m_M_grammar 87 = some (.aload_n 0, 1, 0, 0, 88) := rfl
theorem i_M_grammar_88 : ins m_M_grammar 88 = some (.invokevirtual 281, 3, 141, 0, 91) := rfl
theorem i_M_grammar_91 : ins m_M_grammar 91 = some (.aload_n 0, 1, 0, 0, 92) := rfl
theorem i_M_grammar_92 : ins m_M_grammar 92 = some (.getfield 275, 3, 1105, 0, 95) := rfl
theorem i_M_grammar_95 : ins m_M_grammar 95 = some (.ireturn, 1, 0, 0, 96) := rfl
theorem i_M_mayPart_0 : ins m_M_mayPart 0 = some (.aload_n 0, 1, 0, 0, 1) := rfl
theorem i_M_mayPart_1 : ins m_M_mayPart 1 = some (.getfield 40, 3, 1114, 0, 4) := rfl
theorem i_M_mayPart_4 : ins m_M_mayPart 4 = some (.iload_n 1, 1, 0, 0, 5) := rfl
theorem i_M_mayPart_5 : ins m_M_mayPart 5 = some (.iaload, 1, 0, 0, 6) := rfl
theorem i_M_mayPart_6 : ins m_M_mayPart 6 = some (.tableswitch 75 4 12 #[50, 50, 64, 50, 64, 50, 52, 64, 64], 50, 0, 0, 56) := rfl
theorem i_M_mayPart_56 : ins m_M_mayPart 56 = some (.iconst 1, 1, 0, 0, 57) := rfl
theorem i_M_mayPart_57 : ins m_M_mayPart 57 = some (.ireturn, 1, 0, 0, 58) := rfl
theorem i_M_mayPart_58 : ins m_M_mayPart 58 = some (.aload_n 0, 1, 0, 0, 59) := rfl
theorem i_M_mayPart_59 : ins m_M_mayPart 59 = some (.getfield 67, 3, 1123, 0, 62) := rfl
theorem i_M_mayPart_62 : ins m_M_mayPart 62 = some (.aload_n 0, 1, 0, 0, 63) := rfl
theorem i_M_mayPart_63 : ins m_M_mayPart 63 = some (.getfield 43, 3, 1115, 0, 66) := rfl
theorem i_M_mayPart_66 : ins m_M_mayPart 66 = some (.iload_n 1, 1, 0, 0, 67) := rfl
theorem i_M_mayPart_67 : ins m_M_mayPart 67 = some (.iaload, 1, 0, 0, 68) := rfl
theorem i_M_mayPart_68 : ins m_M_mayPart 68 = some (.baload, 1, 0, 0, 69) := rfl
theorem i_M_mayPart_69 : ins m_M_mayPart 69 = some (.ireturn, 1, 0, 0, 70) := rfl
theorem i_M_mayPart_70 : ins m_M_mayPart 70 = some (.aload_n 0, 1, 0, 0, 71) := rfl
theorem i_M_mayPart_71 : ins m_M_mayPart 71 = some (.aload_n 0, 1, 0, 0, 72) := rfl
theorem i_M_mayPart_72 : ins m_M_mayPart 72 = some (.getfield 43, 3, 1115, 0, 75) := rfl
theorem i_M_mayPart_75 : ins m_M_mayPart 75 = some (.iload_n 1, 1, 0, 0, 76) := rfl
theorem i_M_mayPart_76 : ins m_M_mayPart 76 = some (.iaload, 1, 0, 0, 77) := rfl
theorem i_M_mayPart_77 : ins m_M_mayPart 77 = some (.invokevirtual 284, 3, 138, 1, 80) := rfl
theorem i_M_mayPart_80 : ins m_M_mayPart 80 = some (.ireturn, 1, 0, 0, 81) := rfl
theorem i_M_mayPart_81 : ins m_M_mayPart 81 = some (.iconst 0, 1, 0, 0, 82) := rfl
theorem i_M_mayPart_82 : ins m_M_mayPart 82 = some (.ireturn, 1, 0, 0, 83) := rfl
theorem i_M_mayItem_0 : ins m_M_mayItem 0 = some (.aload_n 0, 1, 0, 0, 1) := rfl
theorem i_M_mayItem_1 : ins m_M_mayItem 1 = some (.getfield 34, 3, 1112, 0, 4) := rfl
theorem i_M_mayItem_4 : ins m_M_mayItem 4 = some (.iload_n 1, 1, 0, 0, 5) := rfl
theorem i_M_mayItem_5 : ins m_M_mayItem 5 = some (.iaload, 1, 0, 0, 6) := rfl
theorem i_M_mayItem_6 : ins m_M_mayItem 6 = some (.bipush 42, 2, 0, 0, 8) := rfl
theorem i_M_mayItem_8 : ins m_M_mayItem 8 = some (.if_icmp .eq 27, 3, 35, 0, 11) := rfl
theorem i_M_mayItem_11 : ins m_M_mayItem 11 = some (.aload_n 0, 1, 0, 0, 12) := rfl
theorem i_M_mayItem_12 : ins m_M_mayItem 12 = some (.getfield 34, 3, 1112, 0, 15) := rfl
theorem i_M_mayItem_15 : ins m_M_mayItem 15 = some (.iload_n 1, 1, 0, 0, 16) := rfl
theorem i_M_mayItem_16 : ins m_M_mayItem 16 = some (.iaload, 1, 0, 0, 17) := rfl
theorem i_M_mayItem_17 : ins m_M_mayItem 17 = some (.bipush 63, 2, 0, 0, 19) := rfl
theorem i_M_mayItem_19 : ins m_M_mayItem 19 = some (.if_icmp .eq 16, 3, 35, 0, 22) := rfl
theorem i_M_mayItem_22 : ins m_M_mayItem 22 = some (.aload_n 0, 1, 0, 0, 23) := rfl
theorem i_M_mayItem_23 : ins m_M_mayItem 23 = some (.aload_n 0, 1, 0, 0, 24) := rfl
theorem i_M_mayItem_24 : ins m_M_mayItem 24 = some (.getfield 31, 3, 1111, 0, 27) := rfl
theorem i_M_mayItem_27 : ins m_M_mayItem 27 = some (.iload_n 1, 1, 0, 0, 28) := rfl
theorem i_M_mayItem_28 : ins m_M_mayItem 28 = some (.iaload, 1, 0, 0, 29) := rfl
theorem i_M_mayItem_29 : ins m_M_mayItem 29 = some (.invokevirtual 287, 3, 136, 1, 32) := rfl
theorem i_M_mayItem_32 : ins m_M_mayItem 32 = some (.ifCond .eq 7, 3, 39, 0, 35) := rfl
theorem i_M_mayItem_35 : ins m_M_mayItem 35 = some (.iconst 1, 1, 0, 0, 36) := rfl
theorem i_M_mayItem_36 : ins m_M_mayItem 36 = some (.goto 4, 3, 40, 0, 39) := rfl
theorem i_M_mayItem_39 : ins m_M_mayItem 39 = some (.iconst 0, 1, 0, 0, 40) := rfl
theorem i_M_mayItem_40 : ins m_M_mayItem 40 = some (.ireturn, 1, 0, 0, 41) := rfl
theorem i_M_mayAlt_0 : ins m_M_mayAlt 0 = some (.aload_n 0, 1, 0, 0, 1) := rfl
theorem i_M_mayAlt_1 : ins m_M_mayAlt 1 = some (.getfield 22, 3, 1108, 0, 4) := rfl
theorem i_M_mayAlt_4 : ins m_M_mayAlt 4 = some (.iload_n 1, 1, 0, 0, 5) := rfl
theorem i_M_mayAlt_5 : ins m_M_mayAlt 5 = some (.iaload, 1, 0, 0, 6) := rfl
theorem i_M_mayAlt_6 : ins m_M_mayAlt 6 = some (.istore_n 2, 1, 0, 0, 7) := rfl
theorem i_M_mayAlt_7 : ins m_M_mayAlt 7 = some (.iload_n 2, 1, 0, 0, 8) := rfl
theorem i_M_mayAlt_8 : ins m_M_mayAlt 8 = some (.iconst (-1), 1, 0, 0, 9) := rfl
theorem i_M_mayAlt_9 : ins m_M_mayAlt 9 = some (.if_icmp .eq 56, 3, 65, 0, 12) := rfl
theorem i_M_mayAlt_12 : ins m_M_mayAlt 12 = some (.iconst 1, 1, 0, 0, 13) := rfl
theorem i_M_mayAlt_13 : ins m_M_mayAlt 13 = some (.istore_n 3, 1, 0, 0, 14) := rfl
theorem i_M_mayAlt_14 : ins m_M_mayAlt 14 = some (.aload_n 0, 1, 0, 0, 15) := rfl
theorem i_M_mayAlt_15 : ins m_M_mayAlt 15 = some (.getfield 25, 3, 1109, 0, 18) := rfl
theorem i_M_mayAlt_18 : ins m_M_mayAlt 18 = some (.iload_n 2, 1, 0, 0, 19) := rfl
theorem i_M_mayAlt_19 : ins m_M_mayAlt 19 = some (.iaload, 1, 0, 0, 20) := rfl
theorem i_M_mayAlt_20 : ins m_M_mayAlt 20 = some (.istore 4, 2, 0, 0, 22) := rfl
theorem i_M_mayAlt_22 : ins m_M_mayAlt 22 = some (.iload 4, 2, 0, 0, 24) := rfl
theorem i_M_mayAlt_24 : ins m_M_mayAlt 24 = some (.iconst (-1), 1, 0, 0, 25) := rfl
theorem i_M_mayAlt_25 : ins m_M_mayAlt 25 = some (.if_icmp .eq 24, 3, 49, 0, 28) := rfl
theorem i_M_mayAlt_28 : ins m_M_mayAlt 28 = some (.iload_n 3, 1, 0, 0, 29) := rfl
theorem i_M_mayAlt_29 : ins m_M_mayAlt 29 = some (.aload_n 0, 1, 0, 0, 30) := rfl
theorem i_M_mayAlt_30 : ins m_M_mayAlt 30 = some (.iload 4, 2, 0, 0, 32) := rfl
theorem i_M_mayAlt_32 : ins m_M_mayAlt 32 = some (.invokevirtual 290, 3, 137, 1, 35) := rfl
theorem i_M_mayAlt_35 : ins m_M_mayAlt 35 = some (.iand, 1, 0, 0, 36) := rfl
theorem i_M_mayAlt_36 : ins m_M_mayAlt 36 = some (.istore_n 3, 1, 0, 0, 37) := rfl
theorem i_M_mayAlt_37 : ins m_M_mayAlt 37 = some (.aload_n 0, 1, 0, 0, 38) := rfl
theorem i_M_mayAlt_38 : ins m_M_mayAlt 38 = some (.getfield 37, 3, 1113, 0, 41) := rfl
theorem i_M_mayAlt_41 : ins m_M_mayAlt 41 = some (.iload 4, 2, 0, 0, 43) := rfl
theorem i_M_mayAlt_43 : ins m_M_mayAlt 43 = some (.iaload, 1, 0, 0, 44) := rfl
theorem i_M_mayAlt_44 : ins m_M_mayAlt 44 = some (.istore 4, 2, 0, 0, 46) := rfl
theorem i_M_mayAlt_46 : ins m_M_mayAlt 46 = some (.goto (-24), 3, 22, 0, 49) := rfl
theorem i_M_mayAlt_49 : ins m_M_mayAlt 49 = some (.iload_n 3, 1, 0, 0, 50) := rfl
theorem i_M_mayAlt_50 : ins m_M_mayAlt 50 = some (.ifCond .eq 5, 3, 55, 0, 53) := rfl
theorem i_M_mayAlt_53 : ins m_M_mayAlt 53 = some (.iconst 1, 1, 0, 0, 54) := rfl
theorem i_M_mayAlt_54 : ins m_M_mayAlt 54 = some (.ireturn, 1, 0, 0, 55) := rfl
theorem i_M_mayAlt_55 : ins m_M_mayAlt 55 = some (.aload_n 0, 1, 0, 0, 56) := rfl
theorem i_M_mayAlt_56 : ins m_M_mayAlt 56 = some (.getfield 28, 3, 1110, 0, 59) := rfl
theorem i_M_mayAlt_59 : ins m_M_mayAlt 59 = some (.iload_n 2, 1, 0, 0, 60) := rfl
theorem i_M_mayAlt_60 : ins m_M_mayAlt 60 = some (.iaload, 1, 0, 0, 61) := rfl
theorem i_M_mayAlt_61 : ins m_M_mayAlt 61 = some (.istore_n 2, 1, 0, 0, 62) := rfl
theorem i_M_mayAlt_62 : ins m_M_mayAlt 62 = some (.goto (-55), 3, 7, 0, 65) := rfl
theorem i_M_mayAlt_65 : ins m_M_mayAlt 65 = some (.iconst 0, 1, 0, 0, 66) := rfl
theorem i_M_mayAlt_66 : ins m_M_mayAlt 66 = some (.ireturn, 1, 0, 0, 67) := rfl
theorem i_M_leftPart_0 : ins m_M_leftPart 0 = some (.aload_n 0, 1, 0, 0, 1) := rfl
theorem i_M_leftPart_1 : ins m_M_leftPart 1 = some (.getfield 40, 3, 1114, 0, 4) := rfl
theorem i_M_leftPart_4 : ins m_M_leftPart 4 = some (.iload_n 1, 1, 0, 0, 5) := rfl
theorem i_M_leftPart_5 : ins m_M_leftPart 5 = some (.iaload, 1, 0, 0, 6) := rfl
theorem i_M_leftPart_6 : ins m_M_leftPart 6 = some (.istore_n 2, 1, 0, 0, 7) := rfl
theorem i_M_leftPart_7 : ins m_M_leftPart 7 = some (.iload_n 2, 1, 0, 0, 8) := rfl
theorem i_M_leftPart_8 : ins m_M_leftPart 8 = some (.bipush 10, 2, 0, 0, 10) := rfl
theorem i_M_leftPart_10 : ins m_M_leftPart 10 = some (.if_icmp .ne 12, 3, 22, 0, 13) := rfl
theorem i_M_leftPart_13 : ins m_M_leftPart 13 = some (.iconst 1, 1, 0, 0, 14) := rfl
theorem i_M_leftPart_14 : ins m_M_leftPart 14 = some (.aload_n 0, 1, 0, 0, 15) := rfl
theorem i_M_leftPart_15 : ins m_M_leftPart 15 = some (.getfield 43, 3, 1115, 0, 18) := rfl
theorem i_M_leftPart_18 : ins m_M_leftPart 18 = some (.iload_n 1, 1, 0, 0, 19) := rfl
theorem i_M_leftPart_19 : ins m_M_leftPart 19 = some (.iaload, 1, 0, 0, 20) := rfl
theorem i_M_leftPart_20 : ins m_M_leftPart 20 = some (.ishl, 1, 0, 0, 21) := rfl
theorem i_M_leftPart_21 : ins m_M_leftPart 21 = some (.ireturn, 1, 0, 0, 22) := rfl
theorem i_M_leftPart_22 : ins m_M_leftPart 22 = some (.iload_n 2, 1, 0, 0, 23) := rfl
theorem i_M_leftPart_23 : ins m_M_leftPart 23 = some (.bipush 12, 2, 0, 0, 25) := rfl
theorem i_M_leftPart_25 : ins m_M_leftPart 25 = some (.if_icmp .ne 42, 3, 67, 0, 28) := rfl
theorem i_M_leftPart_28 : ins m_M_leftPart 28 = some (.aload_n 0, 1, 0, 0, 29) := rfl
theorem i_M_leftPart_29 : ins m_M_leftPart 29 = some (.aload_n 0, 1, 0, 0, 30) := rfl
theorem i_M_leftPart_30 : ins m_M_leftPart 30 = some (.getfield 43, 3, 1115, 0, 33) := rfl
theorem i_M_leftPart_33 : ins m_M_leftPart 33 = some (.iload_n 1, 1, 0, 0, 34) := rfl
theorem i_M_leftPart_34 : ins m_M_leftPart 34 = some (.iaload, 1, 0, 0, 35) := rfl
theorem i_M_leftPart_35 : ins m_M_leftPart 35 = some (.invokevirtual 293, 3, 140, 1, 38) := rfl
theorem i_M_leftPart_38 : ins m_M_leftPart 38 = some (.aload_n 0, 1, 0, 0, 39) := rfl
theorem i_M_leftPart_39 : ins m_M_leftPart 39 = some (.aload_n 0, 1, 0, 0, 40) := rfl
theorem i_M_leftPart_40 : ins m_M_leftPart 40 = some (.getfield 43, 3, 1115, 0, 43) := rfl
theorem i_M_leftPart_43 : ins m_M_leftPart 43 = some (.iload_n 1, 1, 0, 0, 44) := rfl
theorem i_M_leftPart_44 : ins m_M_leftPart 44 = some (.iaload, 1, 0, 0, 45) := rfl
theorem i_M_leftPart_45 : ins m_M_leftPart 45 = some (.invokevirtual 284, 3, 138, 1, 48) := rfl
theorem i_M_leftPart_48 : ins m_M_leftPart 48 = some (.ifCond .eq 16, 3, 64, 0, 51) := rfl
theorem i_M_leftPart_51 : ins m_M_leftPart 51 = some (.aload_n 0, 1, 0, 0, 52) := rfl
theorem i_M_leftPart_52 : ins m_M_leftPart 52 = some (.aload_n 0, 1, 0, 0, 53) := rfl
theorem i_M_leftPart_53 : ins m_M_leftPart 53 = some (.getfield 46, 3, 1116, 0, 56) := rfl
theorem i_M_leftPart_56 : ins m_M_leftPart 56 = some (.iload_n 1, 1, 0, 0, 57) := rfl
theorem i_M_leftPart_57 : ins m_M_leftPart 57 = some (.iaload, 1, 0, 0, 58) := rfl
theorem i_M_leftPart_58 : ins m_M_leftPart 58 = some (.invokevirtual 293, 3, 140, 1, 61) := rfl
theorem i_M_leftPart_61 : ins m_M_leftPart 61 = some (.goto 4, 3, 65, 0, 64) := rfl
theorem i_M_leftPart_64 : ins m_M_leftPart 64 = some (.iconst 0, 1, 0, 0, 65) := rfl
theorem i_M_leftPart_65 : ins m_M_leftPart 65 = some (.ior, 1, 0, 0, 66) := rfl
theorem i_M_leftPart_66 : ins m_M_leftPart 66 = some (.ireturn, 1, 0, 0, 67) := rfl
theorem i_M_leftPart_67 : ins m_M_leftPart 67 = some (.iload_n 2, 1, 0, 0, 68) := rfl
theorem i_M_leftPart_68 : ins m_M_leftPart 68 = some (.bipush 11, 2, 0, 0, 70) := rfl
theorem i_M_leftPart_70 : ins m_M_leftPart 70 = some (.if_icmp .eq 26, 3, 96, 0, 73) := rfl
theorem i_M_leftPart_73 : ins m_M_leftPart 73 = some (.iload_n 2, 1, 0, 0, 74) := rfl
theorem i_M_leftPart_74 : ins m_M_leftPart 74 = some (.bipush 8, 2, 0, 0, 76) := rfl
theorem i_M_leftPart_76 : ins m_M_leftPart 76 = some (.if_icmp .eq 20, 3, 96, 0, 79) := rfl
theorem i_M_leftPart_79 : ins m_M_leftPart 79 = some (.iload_n 2, 1, 0, 0, 80) := rfl
theorem i_M_leftPart_80 : ins m_M_leftPart 80 = some (.iconst 5, 1, 0, 0, 81) := rfl
theorem i_M_leftPart_81 : ins m_M_leftPart 81 = some (.if_icmp .eq 15, 3, 96, 0, 84) := rfl
theorem i_M_leftPart_84 : ins m_M_leftPart 84 = some (.iload_n 2, 1, 0, 0, 85) := rfl
theorem i_M_leftPart_85 : ins m_M_leftPart 85 = some (.bipush 9, 2, 0, 0, 87) := rfl
theorem i_M_leftPart_87 : ins m_M_leftPart 87 = some (.if_icmp .eq 9, 3, 96, 0, 90) := rfl
theorem i_M_leftPart_90 : ins m_M_leftPart 90 = some (.iload_n 2, 1, 0, 0, 91) := rfl
theorem i_M_leftPart_91 : ins m_M_leftPart 91 = some (.bipush 6, 2, 0, 0, 93) := rfl
theorem i_M_leftPart_93 : ins m_M_leftPart 93 = some (.if_icmp .ne 16, 3, 109, 0, 96) := rfl
theorem i_M_leftPart_96 : ins m_M_leftPart 96 = some (.aload_n 0, 1, 0, 0, 97) := rfl
theorem i_M_leftPart_97 : ins m_M_leftPart 97 = some (.aload_n 0, 1, 0, 0, 98) := rfl
theorem i_M_leftPart_98 : ins m_M_leftPart 98 = some (.getfield 43, 3, 1115, 0, 101) := rfl
theorem i_M_leftPart_101 : ins m_M_leftPart 101 = some (.iload_n 1, 1, 0, 0, 102) := rfl
theorem i_M_leftPart_102 : ins m_M_leftPart 102 = some (.iaload, 1, 0, 0, 103) := rfl
theorem i_M_leftPart_103 : ins m_M_leftPart 103 = some (.invokevirtual 293, 3, 140, 1, 106) := rfl
theorem i_M_leftPart_106 : ins m_M_leftPart 106 = some (.goto 4, 3, 110, 0, 109) := rfl
theorem i_M_leftPart_109 : ins m_M_leftPart 109 = some (.iconst 0, 1, 0, 0, 110) := rfl
theorem i_M_leftPart_110 : ins m_M_leftPart 110 = some (.ireturn, 1, 0, 0, 111) := rfl
theorem i_M_leftAlt_0 : ins m_M_leftAlt 0 = some (.iconst 0, 1, 0, 0, 1) := rfl
theorem i_M_leftAlt_1 : ins m_M_leftAlt 1 = some (.istore_n 2, 1, 0, 0, 2) := rfl
theorem i_M_leftAlt_2 : ins m_M_leftAlt 2 = some (.aload_n 0, 1, 0, 0, 3) := rfl
theorem i_M_leftAlt_3 : ins m_M_leftAlt 3 = some (.getfield 22, 3, 1108, 0, 6) := rfl
theorem i_M_leftAlt_6 : ins m_M_leftAlt 6 = some (.iload_n 1, 1, 0, 0, 7) := rfl
theorem i_M_leftAlt_7 : ins m_M_leftAlt 7 = some (.iaload, 1, 0, 0, 8) := rfl
theorem i_M_leftAlt_8 : ins m_M_leftAlt 8 = some (.istore_n 3, 1, 0, 0, 9) := rfl
theorem i_M_leftAlt_9 : ins m_M_leftAlt 9 = some (.iload_n 3, 1, 0, 0, 10) := rfl
theorem i_M_leftAlt_10 : ins m_M_leftAlt 10 = some (.iconst (-1), 1, 0, 0, 11) := rfl
theorem i_M_leftAlt_11 : ins m_M_leftAlt 11 = some (.if_icmp .eq 69, 3, 80, 0, 14) := rfl
theorem i_M_leftAlt_14 : ins m_M_leftAlt 14 = some (.iconst 1, 1, 0, 0, 15) := rfl
theorem i_M_leftAlt_15 : ins m_M_leftAlt 15 = some (.istore 4, 2, 0, 0, 17) := rfl
theorem i_M_leftAlt_17 : ins m_M_leftAlt 17 = some (.aload_n 0, 1, 0, 0, 18) := rfl
theorem i_M_leftAlt_18 : ins m_M_leftAlt 18 = some (.getfield 25, 3, 1109, 0, 21) := rfl
theorem i_M_leftAlt_21 : ins m_M_leftAlt 21 = some (.iload_n 3, 1, 0, 0, 22) := rfl
theorem i_M_leftAlt_22 : ins m_M_leftAlt 22 = some (.iaload, 1, 0, 0, 23) := rfl
theorem i_M_leftAlt_23 : ins m_M_leftAlt 23 = some (.istore 5, 2, 0, 0, 25) := rfl
theorem i_M_leftAlt_25 : ins m_M_leftAlt 25 = some (.iload 5, 2, 0, 0, 27) := rfl
theorem i_M_leftAlt_27 : ins m_M_leftAlt 27 = some (.iconst (-1), 1, 0, 0, 28) := rfl
theorem i_M_leftAlt_28 : ins m_M_leftAlt 28 = some (.if_icmp .eq 42, 3, 70, 0, 31) := rfl
theorem i_M_leftAlt_31 : ins m_M_leftAlt 31 = some (.iload 4, 2, 0, 0, 33) := rfl
theorem i_M_leftAlt_33 : ins m_M_leftAlt 33 = some (.ifCond .eq 37, 3, 70, 0, 36) := rfl
theorem i_M_leftAlt_36 : ins m_M_leftAlt 36 = some (.iload_n 2, 1, 0, 0, 37) := rfl
theorem i_M_leftAlt_37 : ins m_M_leftAlt 37 = some (.aload_n 0, 1, 0, 0, 38) := rfl
theorem i_M_leftAlt_38 : ins m_M_leftAlt 38 = some (.aload_n 0, 1, 0, 0, 39) := rfl
theorem i_M_leftAlt_39 : ins m_M_leftAlt 39 = some (.getfield 31, 3, 1111, 0, 42) := rfl
theorem i_M_leftAlt_42 : ins m_M_leftAlt 42 = some (.iload 5, 2, 0, 0, 44) := rfl
theorem i_M_leftAlt_44 : ins m_M_leftAlt 44 = some (.iaload, 1, 0, 0, 45) := rfl
theorem i_M_leftAlt_45 : ins m_M_leftAlt 45 = some (.invokevirtual 297, 3, 139, 1, 48) := rfl
theorem i_M_leftAlt_48 : ins m_M_leftAlt 48 = some (.ior, 1, 0, 0, 49) := rfl
theorem i_M_leftAlt_49 : ins m_M_leftAlt 49 = some (.istore_n 2, 1, 0, 0, 50) := rfl
theorem i_M_leftAlt_50 : ins m_M_leftAlt 50 = some (.aload_n 0, 1, 0, 0, 51) := rfl
theorem i_M_leftAlt_51 : ins m_M_leftAlt 51 = some (.iload 5, 2, 0, 0, 53) := rfl
theorem i_M_leftAlt_53 : ins m_M_leftAlt 53 = some (.invokevirtual 290, 3, 137, 1, 56) := rfl
theorem i_M_leftAlt_56 : ins m_M_leftAlt 56 = some (.istore 4, 2, 0, 0, 58) := rfl
theorem i_M_leftAlt_58 : ins m_M_leftAlt 58 = some (.aload_n 0, 1, 0, 0, 59) := rfl
theorem i_M_leftAlt_59 : ins m_M_leftAlt 59 = some (.getfield 37, 3, 1113, 0, 62) := rfl
theorem i_M_leftAlt_62 : ins m_M_leftAlt 62 = some (.iload 5, 2, 0, 0, 64) := rfl
theorem i_M_leftAlt_64 : ins m_M_leftAlt 64 = some (.iaload, 1, 0, 0, 65) := rfl
theorem i_M_leftAlt_65 : ins m_M_leftAlt 65 = some (.istore 5, 2, 0, 0, 67) := rfl
theorem i_M_leftAlt_67 : ins m_M_leftAlt 67 = some (.goto (-42), 3, 25, 0, 70) := rfl
theorem i_M_leftAlt_70 : ins m_M_leftAlt 70 = some (.aload_n 0, 1, 0, 0, 71) := rfl
theorem i_M_leftAlt_71 : ins m_M_leftAlt 71 = some (.getfield 28, 3, 1110, 0, 74) := rfl
theorem i_M_leftAlt_74 : ins m_M_leftAlt 74 = some (.iload_n 3, 1, 0, 0, 75) := rfl
theorem i_M_leftAlt_75 : ins m_M_leftAlt 75 = some (.iaload, 1, 0, 0, 76) := rfl
theorem i_M_leftAlt_76 : ins m_M_leftAlt 76 = some (.istore_n 3, 1, 0, 0, 77) := rfl
theorem i_M_leftAlt_77 : ins m_M_leftAlt 77 = some (.goto (-68), 3, 9, 0, 80) := rfl
theorem i_M_leftAlt_80 : ins m_M_leftAlt 80 = some (.iload_n 2, 1, 0, 0, 81) := rfl
theorem i_M_leftAlt_81 : ins m_M_leftAlt 81 = some (.ireturn, 1, 0, 0, 82) := rfl
theorem i_M_may_0 : ins m_M_may 0 = some (.iconst 0, 1, 0, 0, 1) := rfl
theorem i_M_may_1 : ins m_M_may 1 = some (.istore_n 1, 1, 0, 0, 2) := rfl
theorem i_M_may_2 : ins m_M_may 2 = some (.iload_n 1, 1, 0, 0, 3) := rfl
theorem i_M_may_3 : ins m_M_may 3 = some (.bipush 8, 2, 0, 0, 5) := rfl
theorem i_M_may_5 : ins m_M_may 5 = some (.if_icmp .ge 16, 3, 21, 0, 8) := rfl
theorem i_M_may_8 : ins m_M_may 8 = some (.aload_n 0, 1, 0, 0, 9) := rfl
theorem i_M_may_9 : ins m_M_may 9 = some (.getfield 67, 3, 1123, 0, 12) := rfl
theorem i_M_may_12 : ins m_M_may 12 = some (.iload_n 1, 1, 0, 0, 13) := rfl
theorem i_M_may_13 : ins m_M_may 13 = some (.iconst 0, 1, 0, 0, 14) := rfl
theorem i_M_may_14 : ins m_M_may 14 = some (.bastore, 1, 0, 0, 15) := rfl
theorem i_M_may_15 : ins m_M_may 15 = some (.iinc 1 1, 3, 0, 0, 18) := rfl
theorem i_M_may_18 : ins m_M_may 18 = some (.goto (-16), 3, 2, 0, 21) := rfl
theorem i_M_may_21 : ins m_M_may 21 = some (.iconst 0, 1, 0, 0, 22) := rfl
theorem i_M_may_22 : ins m_M_may 22 = some (.istore_n 1, 1, 0, 0, 23) := rfl
theorem i_M_may_23 : ins m_M_may 23 = some (.iload_n 1, 1, 0, 0, 24) := rfl
theorem i_M_may_24 : ins m_M_may 24 = some (.bipush 9, 2, 0, 0, 26) := rfl
theorem i_M_may_26 : ins m_M_may 26 = some (.if_icmp .ge 57, 3, 83, 0, 29) := rfl
theorem i_M_may_29 : ins m_M_may 29 = some (.iconst 0, 1, 0, 0, 30) := rfl
theorem i_M_may_30 : ins m_M_may 30 = some (.istore_n 2, 1, 0, 0, 31) := rfl
theorem i_M_may_31 : ins m_M_may 31 = some (.iload_n 2, 1, 0, 0, 32) := rfl
theorem i_M_may_32 : ins m_M_may 32 = some (.bipush 8, 2, 0, 0, 34) := rfl
theorem i_M_may_34 : ins m_M_may 34 = some (.if_icmp .ge 43, 3, 77, 0, 37) := rfl
theorem i_M_may_37 : ins m_M_may 37 = some (.aload_n 0, 1, 0, 0, 38) := rfl
theorem i_M_may_38 : ins m_M_may 38 = some (.getfield 67, 3, 1123, 0, 41) := rfl
theorem i_M_may_41 : ins m_M_may 41 = some (.iload_n 2, 1, 0, 0, 42) := rfl
theorem i_M_may_42 : ins m_M_may 42 = some (.aload_n 0, 1, 0, 0, 43) := rfl
theorem i_M_may_43 : ins m_M_may 43 = some (.getfield 19, 3, 1107, 0, 46) := rfl
theorem i_M_may_46 : ins m_M_may 46 = some (.iload_n 2, 1, 0, 0, 47) := rfl
theorem i_M_may_47 : ins m_M_may 47 = some (.iaload, 1, 0, 0, 48) := rfl
theorem i_M_may_48 : ins m_M_may 48 = some (.iconst (-1), 1, 0, 0, 49) := rfl
theorem i_M_may_49 : ins m_M_may 49 = some (.if_icmp .eq 20, 3, 69, 0, 52) := rfl
theorem i_M_may_52 : ins m_M_may 52 = some (.aload_n 0, 1, 0, 0, 53) := rfl
theorem i_M_may_53 : ins m_M_may 53 = some (.aload_n 0, 1, 0, 0, 54) := rfl
theorem i_M_may_54 : ins m_M_may 54 = some (.getfield 19, 3, 1107, 0, 57) := rfl
theorem i_M_may_57 : ins m_M_may 57 = some (.iload_n 2, 1, 0, 0, 58) := rfl
theorem i_M_may_58 : ins m_M_may 58 = some (.iaload, 1, 0, 0, 59) := rfl
theorem i_M_may_59 : ins m_M_may 59 = some (.invokevirtual 284, 3, 138, 1, 62) := rfl
theorem i_M_may_62 : ins m_M_may 62 = some (.ifCond .eq 7, 3, 69, 0, 65) := rfl
theorem i_M_may_65 : ins m_M_may 65 = some (.iconst 1, 1, 0, 0, 66) := rfl
theorem i_M_may_66 : ins m_M_may 66 = some (.goto 4, 3, 70, 0, 69) := rfl
theorem i_M_may_69 : ins m_M_may 69 = some (.iconst 0, 1, 0, 0, 70) := rfl
theorem i_M_may_70 : ins m_M_may 70 = some (.bastore, 1, 0, 0, 71) := rfl
theorem i_M_may_71 : ins m_M_may 71 = some (.iinc 2 1, 3, 0, 0, 74) := rfl
theorem i_M_may_74 : ins m_M_may 74 = some (.goto (-43), 3, 31, 0, 77) := rfl
theorem i_M_may_77 : ins m_M_may 77 = some (.iinc 1 1, 3, 0, 0, 80) := rfl
theorem i_M_may_80 : ins m_M_may 80 = some (.goto (-57), 3, 23, 0, 83) := rfl
theorem i_M_may_83 : ins m_M_may 83 = some (.iconst 0, 1, 0, 0, 84) := rfl
theorem i_M_may_84 : ins m_M_may 84 = some (.istore_n 1, 1, 0, 0, 85) := rfl
theorem i_M_may_85 : ins m_M_may 85 = some (.iload_n 1, 1, 0, 0, 86) := rfl
theorem i_M_may_86 : ins m_M_may 86 = some (.bipush 8, 2, 0, 0, 88) := rfl
theorem i_M_may_88 : ins m_M_may 88 = some (.if_icmp .ge 39, 3, 127, 0, 91) := rfl
theorem i_M_may_91 : ins m_M_may 91 = some (.aload_n 0, 1, 0, 0, 92) := rfl
theorem i_M_may_92 : ins m_M_may 92 = some (.getfield 71, 3, 1124, 0, 95) := rfl
theorem i_M_may_95 : ins m_M_may 95 = some (.iload_n 1, 1, 0, 0, 96) := rfl
theorem i_M_may_96 : ins m_M_may 96 = some (.aload_n 0, 1, 0, 0, 97) := rfl
theorem i_M_may_97 : ins m_M_may 97 = some (.getfield 19, 3, 1107, 0, 100) := rfl
theorem i_M_may_100 : ins m_M_may 100 = some (.iload_n 1, 1, 0, 0, 101) := rfl
theorem i_M_may_101 : ins m_M_may 101 = some (.iaload, 1, 0, 0, 102) := rfl
theorem i_M_may_102 : ins m_M_may 102 = some (.iconst (-1), 1, 0, 0, 103) := rfl
theorem i_M_may_103 : ins m_M_may 103 = some (.if_icmp .ne 7, 3, 110, 0, 106) := rfl
theorem i_M_may_106 : ins m_M_may 106 = some (.iconst 0, 1, 0, 0, 107) := rfl
theorem i_M_may_107 : ins m_M_may 107 = some (.goto 13, 3, 120, 0, 110) := rfl
theorem i_M_may_110 : ins m_M_may 110 = some (.aload_n 0, 1, 0, 0, 111) := rfl
theorem i_M_may_111 : ins m_M_may 111 = some (.aload_n 0, 1, 0, 0, 112) := rfl
theorem i_M_may_112 : ins m_M_may 112 = some (.getfield 19, 3, 1107, 0, 115) := rfl
theorem i_M_may_115 : ins m_M_may 115 = some (.iload_n 1, 1, 0, 0, 116) := rfl
theorem i_M_may_116 : ins m_M_may 116 = some (.iaload, 1, 0, 0, 117) := rfl
theorem i_M_may_117 : ins m_M_may 117 = some (.invokevirtual 293, 3, 140, 1, 120) := rfl
theorem i_M_may_120 : ins m_M_may 120 = some (.iastore, 1, 0, 0, 121) := rfl
theorem i_M_may_121 : ins m_M_may 121 = some (.iinc 1 1, 3, 0, 0, 124) := rfl
theorem i_M_may_124 : ins m_M_may 124 = some (.goto (-39), 3, 85, 0, 127) := rfl
theorem i_M_may_127 : ins m_M_may 127 = some (.iconst 0, 1, 0, 0, 128) := rfl
theorem i_M_may_128 : ins m_M_may 128 = some (.istore_n 1, 1, 0, 0, 129) := rfl
theorem i_M_may_129 : ins m_M_may 129 = some (.iload_n 1, 1, 0, 0, 130) := rfl
theorem i_M_may_130 : ins m_M_may 130 = some (.bipush 9, 2, 0, 0, 132) := rfl
theorem i_M_may_132 : ins m_M_may 132 = some (.if_icmp .ge 66, 3, 198, 0, 135) := rfl
theorem i_M_may_135 : ins m_M_may 135 = some (.iconst 0, 1, 0, 0, 136) := rfl
theorem i_M_may_136 : ins m_M_may 136 = some (.istore_n 2, 1, 0, 0, 137) := rfl
theorem i_M_may_137 : ins m_M_may 137 = some (.iload_n 2, 1, 0, 0, 138) := rfl
theorem i_M_may_138 : ins m_M_may 138 = some (.bipush 8, 2, 0, 0, 140) := rfl
theorem i_M_may_140 : ins m_M_may 140 = some (.if_icmp .ge 52, 3, 192, 0, 143) := rfl
theorem i_M_may_143 : ins m_M_may 143 = some (.iconst 0, 1, 0, 0, 144) := rfl
theorem i_M_may_144 : ins m_M_may 144 = some (.istore_n 3, 1, 0, 0, 145) := rfl
theorem i_M_may_145 : ins m_M_may 145 = some (.iload_n 3, 1, 0, 0, 146) := rfl
theorem i_M_may_146 : ins m_M_may 146 = some (.bipush 8, 2, 0, 0, 148) := rfl
theorem i_M_may_148 : ins m_M_may 148 = some (.if_icmp .ge 38, 3, 186, 0, 151) := rfl
theorem i_M_may_151 : ins m_M_may 151 = some (.aload_n 0, 1, 0, 0, 152) := rfl
theorem i_M_may_152 : ins m_M_may 152 = some (.getfield 71, 3, 1124, 0, 155) := rfl
theorem i_M_may_155 : ins m_M_may 155 = some (.iload_n 2, 1, 0, 0, 156) := rfl
theorem i_M_may_156 : ins m_M_may 156 = some (.iaload, 1, 0, 0, 157) := rfl
theorem i_M_may_157 : ins m_M_may 157 = some (.iload_n 3, 1, 0, 0, 158) := rfl
theorem i_M_may_158 : ins m_M_may 158 = some (.ishr, 1, 0, 0, 159) := rfl
theorem i_M_may_159 : ins m_M_may 159 = some (.iconst 1, 1, 0, 0, 160) := rfl
theorem i_M_may_160 : ins m_M_may 160 = some (.iand, 1, 0, 0, 161) := rfl
theorem i_M_may_161 : ins m_M_may 161 = some (.iconst 1, 1, 0, 0, 162) := rfl
theorem i_M_may_162 : ins m_M_may 162 = some (.if_icmp .ne 18, 3, 180, 0, 165) := rfl
theorem i_M_may_165 : ins m_M_may 165 = some (.aload_n 0, 1, 0, 0, 166) := rfl
theorem i_M_may_166 : ins m_M_may 166 = some (.getfield 71, 3, 1124, 0, 169) := rfl
theorem i_M_may_169 : ins m_M_may 169 = some (.iload_n 2, 1, 0, 0, 170) := rfl
theorem i_M_may_170 : ins m_M_may 170 = some (.dup2, 1, 0, 0, 171) := rfl
theorem i_M_may_171 : ins m_M_may 171 = some (.iaload, 1, 0, 0, 172) := rfl
theorem i_M_may_172 : ins m_M_may 172 = some (.aload_n 0, 1, 0, 0, 173) := rfl
theorem i_M_may_173 : ins m_M_may 173 = some (.getfield 71, 3, 1124, 0, 176) := rfl
theorem i_M_may_176 : ins m_M_may 176 = some (.iload_n 3, 1, 0, 0, 177) := rfl
theorem i_M_may_177 : ins m_M_may 177 = some (.iaload, 1, 0, 0, 178) := rfl
theorem i_M_may_178 : ins m_M_may 178 = some (.ior, 1, 0, 0, 179) := rfl
theorem i_M_may_179 : ins m_M_may 179 = some (.iastore, 1, 0, 0, 180) := rfl
theorem i_M_may_180 : ins m_M_may 180 = some (.iinc 3 1, 3, 0, 0, 183) := rfl
theorem i_M_may_183 : ins m_M_may 183 = some (.goto (-38), 3, 145, 0, 186) := rfl
theorem i_M_may_186 : ins m_M_may 186 = some (.iinc 2 1, 3, 0, 0, 189) := rfl
theorem i_M_may_189 : ins m_M_may 189 = some (.goto (-52), 3, 137, 0, 192) := rfl
theorem i_M_may_192 : ins m_M_may 192 = some (.iinc 1 1, 3, 0, 0, 195) := rfl
theorem i_M_may_195 : ins m_M_may 195 = some (.goto (-66), 3, 129, 0, 198) := rfl
theorem i_M_may_198 : ins m_M_may 198 = some (.return_, 1, 0, 0, 199) := rfl
theorem i_M_makes_0 : ins m_M_makes 0 = some (.aload_n 0, 1, 0, 0, 1) := rfl
theorem i_M_makes_1 : ins m_M_makes 1 = some (.getfield 110, 3, 1162, 0, 4) := rfl
theorem i_M_makes_4 : ins m_M_makes 4 = some (.aload_n 0, 1, 0, 0, 5) := rfl
theorem i_M_makes_5 : ins m_M_makes 5 = some (.getfield 300, 3, 1150, 0, 8) := rfl
theorem i_M_makes_8 : ins m_M_makes 8 = some (.iload_n 1, 1, 0, 0, 9) := rfl
theorem i_M_makes_9 : ins m_M_makes 9 = some (.iastore, 1, 0, 0, 10) := rfl
theorem i_M_makes_10 : ins m_M_makes 10 = some (.aload_n 0, 1, 0, 0, 11) := rfl
theorem i_M_makes_11 : ins m_M_makes 11 = some (.getfield 113, 3, 1163, 0, 14) := rfl
theorem i_M_makes_14 : ins m_M_makes 14 = some (.aload_n 0, 1, 0, 0, 15) := rfl
theorem i_M_makes_15 : ins m_M_makes 15 = some (.getfield 300, 3, 1150, 0, 18) := rfl
theorem i_M_makes_18 : ins m_M_makes 18 = some (.iload_n 2, 1, 0, 0, 19) := rfl
theorem i_M_makes_19 : ins m_M_makes 19 = some (.iastore, 1, 0, 0, 20) := rfl
theorem i_M_makes_20 : ins m_M_makes 20 = some (.aload_n 0, 1, 0, 0, 21) := rfl
theorem i_M_makes_21 : ins m_M_makes 21 = some (.getfield 116, 3, 1164, 0, 24) := rfl
theorem i_M_makes_24 : ins m_M_makes 24 = some (.aload_n 0, 1, 0, 0, 25) := rfl
theorem i_M_makes_25 : ins m_M_makes 25 = some (.getfield 300, 3, 1150, 0, 28) := rfl
theorem i_M_makes_28 : ins m_M_makes 28 = some (.iconst 1, 1, 0, 0, 29) := rfl
theorem i_M_makes_29 : ins m_M_makes 29 = some (.iastore, 1, 0, 0, 30) := rfl
theorem i_M_makes_30 : ins m_M_makes 30 = some (.aload_n 0, 1, 0, 0, 31) := rfl
theorem i_M_makes_31 : ins m_M_makes 31 = some (.getfield 119, 3, 1165, 0, 34) := rfl
theorem i_M_makes_34 : ins m_M_makes 34 = some (.aload_n 0, 1, 0, 0, 35) := rfl
theorem i_M_makes_35 : ins m_M_makes 35 = some (.getfield 300, 3, 1150, 0, 38) := rfl
theorem i_M_makes_38 : ins m_M_makes 38 = some (.iconst (-1), 1, 0, 0, 39) := rfl
theorem i_M_makes_39 : ins m_M_makes 39 = some (.iastore, 1, 0, 0, 40) := rfl
theorem i_M_makes_40 : ins m_M_makes 40 = some (.aload_n 0, 1, 0, 0, 41) := rfl
theorem i_M_makes_41 : ins m_M_makes 41 = some (.getfield 122, 3, 1166, 0, 44) := rfl
theorem i_M_makes_44 : ins m_M_makes 44 = some (.aload_n 0, 1, 0, 0, 45) := rfl
theorem i_M_makes_45 : ins m_M_makes 45 = some (.getfield 300, 3, 1150, 0, 48) := rfl
theorem i_M_makes_48 : ins m_M_makes 48 = some (.iconst (-1), 1, 0, 0, 49) := rfl
theorem i_M_makes_49 : ins m_M_makes 49 = some (.iastore, 1, 0, 0, 50) := rfl
theorem i_M_makes_50 : ins m_M_makes 50 = some (.aload_n 0, 1, 0, 0, 51) := rfl
theorem i_M_makes_51 : ins m_M_makes 51 = some (.dup, 1, 0, 0, 52) := rfl
theorem i_M_makes_52 : ins m_M_makes 52 = some (.getfield 300, 3, 1150, 0, 55) := rfl
theorem i_M_makes_55 : ins m_M_makes 55 = some (.iconst 1, 1, 0, 0, 56) := rfl
theorem i_M_makes_56 : ins m_M_makes 56 = some (.iadd, 1, 0, 0, 57) := rfl
theorem i_M_makes_57 : ins m_M_makes 57 = some (.putfield 300, 3, 1150, 0, 60) := rfl
theorem i_M_makes_60 : ins m_M_makes 60 = some (.aload_n 0, 1, 0, 0, 61) := rfl
theorem i_M_makes_61 : ins m_M_makes 61 = some (.getfield 300, 3, 1150, 0, 64) := rfl
theorem i_M_makes_64 : ins m_M_makes 64 = some (.iconst 1, 1, 0, 0, 65) := rfl
theorem i_M_makes_65 : ins m_M_makes 65 = some (.isub, 1, 0, 0, 66) := rfl
theorem i_M_makes_66 : ins m_M_makes 66 = some (.ireturn, 1, 0, 0, 67) := rfl
theorem i_M_adds_0 : ins m_M_adds 0 = some (.aload_n 0, 1, 0, 0, 1) := rfl
theorem i_M_adds_1 : ins m_M_adds 1 = some (.getfield 125, 3, 1167, 0, 4) := rfl
theorem i_M_adds_4 : ins m_M_adds 4 = some (.aload_n 0, 1, 0, 0, 5) := rfl
theorem i_M_adds_5 : ins m_M_adds 5 = some (.getfield 303, 3, 1151, 0, 8) := rfl
theorem i_M_adds_8 : ins m_M_adds 8 = some (.iload_n 2, 1, 0, 0, 9) := rfl
theorem i_M_adds_9 : ins m_M_adds 9 = some (.iastore, 1, 0, 0, 10) := rfl
theorem i_M_adds_10 : ins m_M_adds 10 = some (.aload_n 0, 1, 0, 0, 11) := rfl
theorem i_M_adds_11 : ins m_M_adds 11 = some (.getfield 128, 3, 1168, 0, 14) := rfl
theorem i_M_adds_14 : ins m_M_adds 14 = some (.aload_n 0, 1, 0, 0, 15) := rfl
theorem i_M_adds_15 : ins m_M_adds 15 = some (.getfield 303, 3, 1151, 0, 18) := rfl
theorem i_M_adds_18 : ins m_M_adds 18 = some (.iconst (-1), 1, 0, 0, 19) := rfl
theorem i_M_adds_19 : ins m_M_adds 19 = some (.iastore, 1, 0, 0, 20) := rfl
theorem i_M_adds_20 : ins m_M_adds 20 = some (.aload_n 0, 1, 0, 0, 21) := rfl
theorem i_M_adds_21 : ins m_M_adds 21 = some (.getfield 119, 3, 1165, 0, 24) := rfl
theorem i_M_adds_24 : ins m_M_adds 24 = some (.iload_n 1, 1, 0, 0, 25) := rfl
theorem i_M_adds_25 : ins m_M_adds 25 = some (.iaload, 1, 0, 0, 26) := rfl
theorem i_M_adds_26 : ins m_M_adds 26 = some (.iconst (-1), 1, 0, 0, 27) := rfl
theorem i_M_adds_27 : ins m_M_adds 27 = some (.if_icmp .ne 16, 3, 43, 0, 30) := rfl
theorem i_M_adds_30 : ins m_M_adds 30 = some (.aload_n 0, 1, 0, 0, 31) := rfl
theorem i_M_adds_31 : ins m_M_adds 31 = some (.getfield 119, 3, 1165, 0, 34) := rfl
theorem i_M_adds_34 : ins m_M_adds 34 = some (.iload_n 1, 1, 0, 0, 35) := rfl
theorem i_M_adds_35 : ins m_M_adds 35 = some (.aload_n 0, 1, 0, 0, 36) := rfl
theorem i_M_adds_36 : ins m_M_adds 36 = some (.getfield 303, 3, 1151, 0, 39) := rfl
theorem i_M_adds_39 : ins m_M_adds 39 = some (.iastore, 1, 0, 0, 40) := rfl
theorem i_M_adds_40 : ins m_M_adds 40 = some (.goto 18, 3, 58, 0, 43) := rfl
theorem i_M_adds_43 : ins m_M_adds 43 = some (.aload_n 0, 1, 0, 0, 44) := rfl
theorem i_M_adds_44 : ins m_M_adds 44 = some (.getfield 128, 3, 1168, 0, 47) := rfl
theorem i_M_adds_47 : ins m_M_adds 47 = some (.aload_n 0, 1, 0, 0, 48) := rfl
theorem i_M_adds_48 : ins m_M_adds 48 = some (.getfield 122, 3, 1166, 0, 51) := rfl
theorem i_M_adds_51 : ins m_M_adds 51 = some (.iload_n 1, 1, 0, 0, 52) := rfl
theorem i_M_adds_52 : ins m_M_adds 52 = some (.iaload, 1, 0, 0, 53) := rfl
theorem i_M_adds_53 : ins m_M_adds 53 = some (.aload_n 0, 1, 0, 0, 54) := rfl
theorem i_M_adds_54 : ins m_M_adds 54 = some (.getfield 303, 3, 1151, 0, 57) := rfl
theorem i_M_adds_57 : ins m_M_adds 57 = some (.iastore, 1, 0, 0, 58) := rfl
theorem i_M_adds_58 : ins m_M_adds 58 = some (.aload_n 0, 1, 0, 0, 59) := rfl
theorem i_M_adds_59 : ins m_M_adds 59 = some (.getfield 122, 3, 1166, 0, 62) := rfl
theorem i_M_adds_62 : ins m_M_adds 62 = some (.iload_n 1, 1, 0, 0, 63) := rfl
theorem i_M_adds_63 : ins m_M_adds 63 = some (.aload_n 0, 1, 0, 0, 64) := rfl
theorem i_M_adds_64 : ins m_M_adds 64 = some (.getfield 303, 3, 1151, 0, 67) := rfl
theorem i_M_adds_67 : ins m_M_adds 67 = some (.iastore, 1, 0, 0, 68) := rfl
theorem i_M_adds_68 : ins m_M_adds 68 = some (.aload_n 0, 1, 0, 0, 69) := rfl
theorem i_M_adds_69 : ins m_M_adds 69 = some (.dup, 1, 0, 0, 70) := rfl
theorem i_M_adds_70 : ins m_M_adds 70 = some (.getfield 303, 3, 1151, 0, 73) := rfl
theorem i_M_adds_73 : ins m_M_adds 73 = some (.iconst 1, 1, 0, 0, 74) := rfl
theorem i_M_adds_74 : ins m_M_adds 74 = some (.iadd, 1, 0, 0, 75) := rfl
theorem i_M_adds_75 : ins m_M_adds 75 = some (.putfield 303, 3, 1151, 0, 78) := rfl
theorem i_M_adds_78 : ins m_M_adds 78 = some (.aload_n 0, 1, 0, 0, 79) := rfl
theorem i_M_adds_79 : ins m_M_adds 79 = some (.getfield 116, 3, 1164, 0, 82) := rfl
theorem i_M_adds_82 : ins m_M_adds 82 = some (.iload_n 1, 1, 0, 0, 83) := rfl
theorem i_M_adds_83 : ins m_M_adds 83 = some (.dup2, 1, 0, 0, 84) := rfl
theorem i_M_adds_84 : ins m_M_adds 84 = some (.iaload, 1, 0, 0, 85) := rfl
theorem i_M_adds_85 : ins m_M_adds 85 = some (.aload_n 0, 1, 0, 0, 86) := rfl
theorem i_M_adds_86 : ins m_M_adds 86 = some (.getfield 116, 3, 1164, 0, 89) := rfl
theorem i_M_adds_89 : ins m_M_adds 89 = some (.iload_n 2, 1, 0, 0, 90) := rfl
theorem i_M_adds_90 : ins m_M_adds 90 = some (.iaload, 1, 0, 0, 91) := rfl
theorem i_M_adds_91 : ins m_M_adds 91 = some (.iadd, 1, 0, 0, 92) := rfl
theorem i_M_adds_92 : ins m_M_adds 92 = some (.iastore, 1, 0, 0, 93) := rfl
theorem i_M_adds_93 : ins m_M_adds 93 = some (.return_, 1, 0, 0, 94) := rfl
theorem i_M_whole_0 : ins m_M_whole 0 = some (.aload_n 0, 1, 0, 0, 1) := rfl
theorem i_M_whole_1 : ins m_M_whole 1 = some (.getfield 116, 3, 1164, 0, 4) := rfl
theorem i_M_whole_4 : ins m_M_whole 4 = some (.iload_n 1, 1, 0, 0, 5) := rfl
theorem i_M_whole_5 : ins m_M_whole 5 = some (.iaload, 1, 0, 0, 6) := rfl
theorem i_M_whole_6 : ins m_M_whole 6 = some (.sipush 2000, 3, 0, 0, 9) := rfl
theorem i_M_whole_9 : ins m_M_whole 9 = some (.if_icmp .le 9, 3, 18, 0, 12) := rfl
theorem i_M_whole_12 : ins m_M_whole 12 = some (.aload_n 0, 1, 0, 0, 13) := rfl
theorem i_M_whole_13 : ins m_M_whole 13 = some (.bipush (-19), 2, 0, 0, 15) := rfl
theorem i_M_whole_15 : ins m_M_whole 15 = some (.putfield 306, 3, 1142, 0, 18) := rfl
theorem i_M_whole_18 : ins m_M_whole 18 = some (.iload_n 1, 1, 0, 0, 19) := rfl
theorem i_M_whole_19 : ins m_M_whole 19 = some (.ireturn, 1, 0, 0, 20) := rfl
theorem i_M_expects_0 : ins m_M_expects 0 = some (.iload_n 3, 1, 0, 0, 1) := rfl
theorem i_M_expects_1 : ins m_M_expects 1 = some (.ifCond .ne 4, 3, 5, 0, 4) := rfl
theorem i_M_expects_4 : ins m_M_expects 4 = some (.return_, 1, 0, 0, 5) := rfl
theorem i_M_expects_5 : ins m_M_expects 5 = some (.iload_n 2, 1, 0, 0, 6) := rfl
theorem i_M_expects_6 : ins m_M_expects 6 = some (.aload_n 0, 1, 0, 0, 7) := rfl
theorem i_M_expects_7 : ins m_M_expects 7 = some (.getfield 98, 3, 1158, 0, 10) := rfl
theorem i_M_expects_10 : ins m_M_expects 10 = some (.iload_n 1, 1, 0, 0, 11) := rfl
theorem i_M_expects_11 : ins m_M_expects 11 = some (.iaload, 1, 0, 0, 12) := rfl
theorem i_M_expects_12 : ins m_M_expects 12 = some (.if_icmp .ne 16, 3, 28, 0, 15) := rfl
theorem i_M_expects_15 : ins m_M_expects 15 = some (.aload_n 0, 1, 0, 0, 16) := rfl
theorem i_M_expects_16 : ins m_M_expects 16 = some (.getfield 101, 3, 1159, 0, 19) := rfl
theorem i_M_expects_19 : ins m_M_expects 19 = some (.iload_n 1, 1, 0, 0, 20) := rfl
theorem i_M_expects_20 : ins m_M_expects 20 = some (.dup2, 1, 0, 0, 21) := rfl
theorem i_M_expects_21 : ins m_M_expects 21 = some (.iaload, 1, 0, 0, 22) := rfl
theorem i_M_expects_22 : ins m_M_expects 22 = some (.iload_n 3, 1, 0, 0, 23) := rfl
theorem i_M_expects_23 : ins m_M_expects 23 = some (.ior, 1, 0, 0, 24) := rfl
theorem i_M_expects_24 : ins m_M_expects 24 = some (.iastore, 1, 0, 0, 25) := rfl
theorem i_M_expects_25 : ins m_M_expects 25 = some (.goto 50, 3, 75, 0, 28) := rfl
theorem i_M_expects_28 : ins m_M_expects 28 = some (.iload_n 2, 1, 0, 0, 29) := rfl
theorem i_M_expects_29 : ins m_M_expects 29 = some (.aload_n 0, 1, 0, 0, 30) := rfl
theorem i_M_expects_30 : ins m_M_expects 30 = some (.getfield 104, 3, 1160, 0, 33) := rfl
theorem i_M_expects_33 : ins m_M_expects 33 = some (.iload_n 1, 1, 0, 0, 34) := rfl
theorem i_M_expects_34 : ins m_M_expects 34 = some (.iaload, 1, 0, 0, 35) := rfl
theorem i_M_expects_35 : ins m_M_expects 35 = some (.if_icmp .le 20, 3, 55, 0, 38) := rfl
theorem i_M_expects_38 : ins m_M_expects 38 = some (.aload_n 0, 1, 0, 0, 39) := rfl
theorem i_M_expects_39 : ins m_M_expects 39 = some (.getfield 104, 3, 1160, 0, 42) := rfl
theorem i_M_expects_42 : ins m_M_expects 42 = some (.iload_n 1, 1, 0, 0, 43) := rfl
theorem i_M_expects_43 : ins m_M_expects 43 = some (.iload_n 2, 1, 0, 0, 44) := rfl
theorem i_M_expects_44 : ins m_M_expects 44 = some (.iastore, 1, 0, 0, 45) := rfl
theorem i_M_expects_45 : ins m_M_expects 45 = some (.aload_n 0, 1, 0, 0, 46) := rfl
theorem i_M_expects_46 : ins m_M_expects 46 = some (.getfield 107, 3, 1161, 0, 49) := rfl
theorem i_M_expects_49 : ins m_M_expects 49 = some (.iload_n 1, 1, 0, 0, 50) := rfl
theorem i_M_expects_50 : ins m_M_expects 50 = some (.iload_n 3, 1, 0, 0, 51) := rfl
theorem i_M_expects_51 : ins m_M_expects 51 = some (.iastore, 1, 0, 0, 52) := rfl
theorem i_M_expects_52 : ins m_M_expects 52 = some (.goto 23, 3, 75, 0, 55) := rfl
theorem i_M_expects_55 : ins m_M_expects 55 = some (.iload_n 2, 1, 0, 0, 56) := rfl
theorem i_M_expects_56 : ins m_M_expects 56 = some (.aload_n 0, 1, 0, 0, 57) := rfl
theorem i_M_expects_57 : ins m_M_expects 57 = some (.getfield 104, 3, 1160, 0, 60) := rfl
theorem i_M_expects_60 : ins m_M_expects 60 = some (.iload_n 1, 1, 0, 0, 61) := rfl
theorem i_M_expects_61 : ins m_M_expects 61 = some (.iaload, 1, 0, 0, 62) := rfl
theorem i_M_expects_62 : ins m_M_expects 62 = some (.if_icmp .ne 13, 3, 75, 0, 65) := rfl
theorem i_M_expects_65 : ins m_M_expects 65 = some (.aload_n 0, 1, 0, 0, 66) := rfl
theorem i_M_expects_66 : ins m_M_expects 66 = some (.getfield 107, 3, 1161, 0, 69) := rfl
theorem i_M_expects_69 : ins m_M_expects 69 = some (.iload_n 1, 1, 0, 0, 70) := rfl
theorem i_M_expects_70 : ins m_M_expects 70 = some (.dup2, 1, 0, 0, 71) := rfl
theorem i_M_expects_71 : ins m_M_expects 71 = some (.iaload, 1, 0, 0, 72) := rfl
theorem i_M_expects_72 : ins m_M_expects 72 = some (.iload_n 3, 1, 0, 0, 73) := rfl
theorem i_M_expects_73 : ins m_M_expects 73 = some (.ior, 1, 0, 0, 74) := rfl
theorem i_M_expects_74 : ins m_M_expects 74 = some (.iastore, 1, 0, 0, 75) := rfl
theorem i_M_expects_75 : ins m_M_expects 75 = some (.return_, 1, 0, 0, 76) := rfl
theorem i_M_frame_0 : ins m_M_frame 0 = some (.aload_n 0, 1, 0, 0, 1) := rfl
theorem i_M_frame_1 : ins m_M_frame 1 = some (.dup, 1, 0, 0, 2) := rfl
theorem i_M_frame_2 : ins m_M_frame 2 = some (.getfield 309, 3, 1149, 0, 5) := rfl
theorem i_M_frame_5 : ins m_M_frame 5 = some (.iconst 1, 1, 0, 0, 6) := rfl
theorem i_M_frame_6 : ins m_M_frame 6 = some (.iadd, 1, 0, 0, 7) := rfl
theorem i_M_frame_7 : ins m_M_frame 7 = some (.putfield 309, 3, 1149, 0, 10) := rfl
theorem i_M_frame_10 : ins m_M_frame 10 = some (.aload_n 0, 1, 0, 0, 11) := rfl
theorem i_M_frame_11 : ins m_M_frame 11 = some (.getfield 98, 3, 1158, 0, 14) := rfl
theorem i_M_frame_14 : ins m_M_frame 14 = some (.aload_n 0, 1, 0, 0, 15) := rfl
theorem i_M_frame_15 : ins m_M_frame 15 = some (.getfield 309, 3, 1149, 0, 18) := rfl
theorem i_M_frame_18 : ins m_M_frame 18 = some (.iload_n 1, 1, 0, 0, 19) := rfl
theorem i_M_frame_19 : ins m_M_frame 19 = some (.iastore, 1, 0, 0, 20) := rfl
theorem i_M_frame_20 : ins m_M_frame 20 = some (.aload_n 0, 1, 0, 0, 21) := rfl
theorem i_M_frame_21 : ins m_M_frame 21 = some (.getfield 101, 3, 1159, 0, 24) := rfl
theorem i_M_frame_24 : ins m_M_frame 24 = some (.aload_n 0, 1, 0, 0, 25) := rfl
theorem i_M_frame_25 : ins m_M_frame 25 = some (.getfield 309, 3, 1149, 0, 28) := rfl
theorem i_M_frame_28 : ins m_M_frame 28 = some (.iconst 0, 1, 0, 0, 29) := rfl
theorem i_M_frame_29 : ins m_M_frame 29 = some (.iastore, 1, 0, 0, 30) := rfl
theorem i_M_frame_30 : ins m_M_frame 30 = some (.aload_n 0, 1, 0, 0, 31) := rfl
theorem i_M_frame_31 : ins m_M_frame 31 = some (.getfield 104, 3, 1160, 0, 34) := rfl
theorem i_M_frame_34 : ins m_M_frame 34 = some (.aload_n 0, 1, 0, 0, 35) := rfl
theorem i_M_frame_35 : ins m_M_frame 35 = some (.getfield 309, 3, 1149, 0, 38) := rfl
theorem i_M_frame_38 : ins m_M_frame 38 = some (.iconst (-1), 1, 0, 0, 39) := rfl
theorem i_M_frame_39 : ins m_M_frame 39 = some (.iastore, 1, 0, 0, 40) := rfl
theorem i_M_frame_40 : ins m_M_frame 40 = some (.aload_n 0, 1, 0, 0, 41) := rfl
theorem i_M_frame_41 : ins m_M_frame 41 = some (.getfield 107, 3, 1161, 0, 44) := rfl
theorem i_M_frame_44 : ins m_M_frame 44 = some (.aload_n 0, 1, 0, 0, 45) := rfl
theorem i_M_frame_45 : ins m_M_frame 45 = some (.getfield 309, 3, 1149, 0, 48) := rfl
theorem i_M_frame_48 : ins m_M_frame 48 = some (.iconst 0, 1, 0, 0, 49) := rfl
theorem i_M_frame_49 : ins m_M_frame 49 = some (.iastore, 1, 0, 0, 50) := rfl
theorem i_M_frame_50 : ins m_M_frame 50 = some (.return_, 1, 0, 0, 51) := rfl
theorem i_M_fails_0 : ins m_M_fails 0 = some (.aload_n 0, 1, 0, 0, 1) := rfl
theorem i_M_fails_1 : ins m_M_fails 1 = some (.iload_n 1, 1, 0, 0, 2) := rfl
theorem i_M_fails_2 : ins m_M_fails 2 = some (.putfield 312, 3, 1152, 0, 5) := rfl
theorem i_M_fails_5 : ins m_M_fails 5 = some (.iconst 0, 1, 0, 0, 6) := rfl
theorem i_M_fails_6 : ins m_M_fails 6 = some (.ireturn, 1, 0, 0, 7) := rfl
theorem i_M_done_0 : ins m_M_done 0 = some (.aload_n 0, 1, 0, 0, 1) := rfl
theorem i_M_done_1 : ins m_M_done 1 = some (.iload_n 1, 1, 0, 0, 2) := rfl
theorem i_M_done_2 : ins m_M_done 2 = some (.putfield 315, 3, 1147, 0, 5) := rfl
theorem i_M_done_5 : ins m_M_done 5 = some (.aload_n 0, 1, 0, 0, 6) := rfl
theorem i_M_done_6 : ins m_M_done 6 = some (.iload_n 2, 1, 0, 0, 7) := rfl
theorem i_M_done_7 : ins m_M_done 7 = some (.putfield 318, 3, 1148, 0, 10) := rfl
theorem i_M_done_10 : ins m_M_done 10 = some (.aload_n 0, 1, 0, 0, 11) := rfl
theorem i_M_done_11 : ins m_M_done 11 = some (.iload_n 3, 1, 0, 0, 12) := rfl
theorem i_M_done_12 : ins m_M_done 12 = some (.putfield 312, 3, 1152, 0, 15) := rfl
theorem i_M_done_15 : ins m_M_done 15 = some (.iconst 1, 1, 0, 0, 16) := rfl
theorem i_M_done_16 : ins m_M_done 16 = some (.ireturn, 1, 0, 0, 17) := rfl
theorem i_M_part__0 : ins m_M_part_ 0 = some (.aload_n 0, 1, 0, 0, 1) := rfl
theorem i_M_part__1 : ins m_M_part_ 1 = some (.getfield 306, 3, 1142, 0, 4) := rfl
theorem i_M_part__4 : ins m_M_part_ 4 = some (.ifCond .eq 5, 3, 9, 0, 7) := rfl
theorem i_M_part__7 : ins m_M_part_ 7 = some (.iconst 0, 1, 0, 0, 8) := rfl
theorem i_M_part__8 : ins m_M_part_ 8 = some (.ireturn, 1, 0, 0, 9) := rfl
theorem i_M_part__9 : ins m_M_part_ 9 = some (.aload_n 0, 1, 0, 0, 10) := rfl
theorem i_M_part__10 : ins m_M_part_ 10 = some (.getfield 321, 3, 1143, 0, 13) := rfl
theorem i_M_part__13 : ins m_M_part_ 13 = some (.sipush 1000, 3, 0, 0, 16) := rfl
theorem i_M_part__16 : ins m_M_part_ 16 = some (.if_icmp .eq 13, 3, 29, 0, 19) := rfl
theorem i_M_part__19 : ins m_M_part_ 19 = some (.aload_n 0, 1, 0, 0, 20) := rfl
theorem i_M_part__20 : ins m_M_part_ 20 = some (.getfield 324, 3, 1144, 0, 23) := rfl
theorem i_M_part__23 : ins m_M_part_ 23 = some (.ldc_w 327, 3, 40000, 0, 26) := rfl
theorem i_M_part__26 : ins m_M_part_ 26 = some (.if_icmp .ne 11, 3, 37, 0, 29) := rfl
theorem i_M_part__29 : ins m_M_part_ 29 = some (.aload_n 0, 1, 0, 0, 30) := rfl
theorem i_M_part__30 : ins m_M_part_ 30 = some (.bipush (-17), 2, 0, 0, 32) := rfl
theorem i_M_part__32 : ins m_M_part_ 32 = some (.putfield 306, 3, 1142, 0, 35) := rfl
theorem i_M_part__35 : ins m_M_part_ 35 = some (.iconst 0, 1, 0, 0, 36) := rfl
theorem i_M_part__36 : ins m_M_part_ 36 = some (.ireturn, 1, 0, 0, 37) := rfl
theorem i_M_part__37 : ins m_M_part_ 37 = some (.aload_n 0, 1, 0, 0, 38) := rfl
theorem i_M_part__38 : ins m_M_part_ 38 = some (.dup, 1, 0, 0, 39) := rfl
theorem i_M_part__39 : ins m_M_part_ 39 = some (.getfield 321, 3, 1143, 0, 42) := rfl
theorem i_M_part__42 : ins m_M_part_ 42 = some (.iconst 1, 1, 0, 0, 43) := rfl
theorem i_M_part__43 : ins m_M_part_ 43 = some (.iadd, 1, 0, 0, 44) := rfl
theorem i_M_part__44 : ins m_M_part_ 44 = some (.putfield 321, 3, 1143, 0, 47) := rfl
theorem i_M_part__47 : ins m_M_part_ 47 = some (.aload_n 0, 1, 0, 0, 48) := rfl
theorem i_M_part__48 : ins m_M_part_ 48 = some (.dup, 1, 0, 0, 49) := rfl
theorem i_M_part__49 : ins m_M_part_ 49 = some (.getfield 324, 3, 1144, 0, 52) := rfl
theorem i_M_part__52 : ins m_M_part_ 52 = some (.iconst 1, 1, 0, 0, 53) := rfl
theorem i_M_part__53 : ins m_M_part_ 53 = some (.iadd, 1, 0, 0, 54) := rfl
theorem i_M_part__54 : ins m_M_part_ 54 = some (.putfield 324, 3, 1144, 0, 57) := rfl
theorem i_M_part__57 : ins m_M_part_ 57 = some (.aload_n 0, 1, 0, 0, 58) := rfl
theorem i_M_part__58 : ins m_M_part_ 58 = some (.getfield 328, 3, 1145, 0, 61) := rfl
theorem i_M_part__61 : ins m_M_part_ 61 = some (.bipush 60, 2, 0, 0, 63) := rfl
theorem i_M_part__63 : ins m_M_part_ 63 = some (.if_icmp .ne 11, 3, 74, 0, 66) := rfl
theorem i_M_part__66 : ins m_M_part_ 66 = some (.aload_n 0, 1, 0, 0, 67) := rfl
theorem i_M_part__67 : ins m_M_part_ 67 = some (.bipush (-18), 2, 0, 0, 69) := rfl
theorem i_M_part__69 : ins m_M_part_ 69 = some (.putfield 306, 3, 1142, 0, 72) := rfl
theorem i_M_part__72 : ins m_M_part_ 72 = some (.iconst 0, 1, 0, 0, 73) := rfl
theorem i_M_part__73 : ins m_M_part_ 73 = some (.ireturn, 1, 0, 0, 74) := rfl
theorem i_M_part__74 : ins m_M_part_ 74 = some (.aload_n 0, 1, 0, 0, 75) := rfl
theorem i_M_part__75 : ins m_M_part_ 75 = some (.dup, 1, 0, 0, 76) := rfl
theorem i_M_part__76 : ins m_M_part_ 76 = some (.getfield 328, 3, 1145, 0, 79) := rfl
theorem i_M_part__79 : ins m_M_part_ 79 = some (.iconst 1, 1, 0, 0, 80) := rfl
theorem i_M_part__80 : ins m_M_part_ 80 = some (.iadd, 1, 0, 0, 81) := rfl
theorem i_M_part__81 : ins m_M_part_ 81 = some (.putfield 328, 3, 1145, 0, 84) := rfl
theorem i_M_part__84 : ins m_M_part_ 84 = some (.aload_n 0, 1, 0, 0, 85) := rfl
theorem i_M_part__85 : ins m_M_part_ 85 = some (.iload_n 1, 1, 0, 0, 86) := rfl
theorem i_M_part__86 : ins m_M_part_ 86 = some (.iload_n 2, 1, 0, 0, 87) := rfl
theorem i_M_part__87 : ins m_M_part_ 87 = some (.invokevirtual 331, 3, 151, 2, 90) := rfl
theorem i_M_part__90 : ins m_M_part_ 90 = some (.istore_n 3, 1, 0, 0, 91) := rfl
theorem i_M_part__91 : ins m_M_part_ 91 = some (.aload_n 0, 1, 0, 0, 92) := rfl
theorem i_M_part__92 : ins m_M_part_ 92 = some (.dup, 1, 0, 0, 93) := rfl
theorem i_M_part__93 : ins m_M_part_ 93 = some (.getfield 328, 3, 1145, 0, 96) := rfl
theorem i_M_part__96 : ins m_M_part_ 96 = some (.iconst 1, 1, 0, 0, 97) := rfl
theorem i_M_part__97 : ins m_M_part_ 97 = some (.isub, 1, 0, 0, 98) := rfl
theorem i_M_part__98 : ins m_M_part_ 98 = some (.putfield 328, 3, 1145, 0, 101) := rfl
theorem i_M_part__101 : ins m_M_part_ 101 = some (.iload_n 3, 1, 0, 0, 102) := rfl
theorem i_M_part__102 : ins m_M_part_ 102 = some (.ifCond .eq 14, 3, 116, 0, 105) := rfl
theorem i_M_part__105 : ins m_M_part_ 105 = some (.aload_n 0, 1, 0, 0, 106) := rfl
theorem i_M_part__106 : ins m_M_part_ 106 = some (.getfield 306, 3, 1142, 0, 109) := rfl
theorem i_M_part__109 : ins m_M_part_ 109 = some (.ifCond .ne 7, 3, 116, 0, 112) := rfl
theorem i_M_part__112 : ins m_M_part_ 112 = some (.iconst 1, 1, 0, 0, 113) := rfl
theorem i_M_part__113 : ins m_M_part_ 113 = some (.goto 4, 3, 117, 0, 116) := rfl
theorem i_M_part__116 : ins m_M_part_ 116 = some (.iconst 0, 1, 0, 0, 117) := rfl
theorem i_M_part__117 : ins m_M_part_ 117 = some (.ireturn, 1, 0, 0, 118) := rfl
theorem i_M_atomAt_0 : ins m_M_atomAt 0 = some (.iload_n 3, 1, 0, 0, 1) := rfl
theorem i_M_atomAt_1 : ins m_M_atomAt 1 = some (.ifCond .eq 19, 3, 20, 0, 4) := rfl
theorem i_M_atomAt_4 : ins m_M_atomAt 4 = some (.aload_n 0, 1, 0, 0, 5) := rfl
theorem i_M_atomAt_5 : ins m_M_atomAt 5 = some (.iload_n 2, 1, 0, 0, 6) := rfl
theorem i_M_atomAt_6 : ins m_M_atomAt 6 = some (.iconst 1, 1, 0, 0, 7) := rfl
theorem i_M_atomAt_7 : ins m_M_atomAt 7 = some (.iadd, 1, 0, 0, 8) := rfl
theorem i_M_atomAt_8 : ins m_M_atomAt 8 = some (.aload_n 0, 1, 0, 0, 9) := rfl
theorem i_M_atomAt_9 : ins m_M_atomAt 9 = some (.iconst 0, 1, 0, 0, 10) := rfl
theorem i_M_atomAt_10 : ins m_M_atomAt 10 = some (.iload 4, 2, 0, 0, 12) := rfl
theorem i_M_atomAt_12 : ins m_M_atomAt 12 = some (.invokevirtual 334, 3, 142, 2, 15) := rfl
theorem i_M_atomAt_15 : ins m_M_atomAt 15 = some (.iconst 0, 1, 0, 0, 16) := rfl
theorem i_M_atomAt_16 : ins m_M_atomAt 16 = some (.invokevirtual 337, 3, 148, 3, 19) := rfl
theorem i_M_atomAt_19 : ins m_M_atomAt 19 = some (.ireturn, 1, 0, 0, 20) := rfl
theorem i_M_atomAt_20 : ins m_M_atomAt 20 = some (.aload_n 0, 1, 0, 0, 21) := rfl
theorem i_M_atomAt_21 : ins m_M_atomAt 21 = some (.aload_n 0, 1, 0, 0, 22) := rfl
theorem i_M_atomAt_22 : ins m_M_atomAt 22 = some (.getfield 309, 3, 1149, 0, 25) := rfl
theorem i_M_atomAt_25 : ins m_M_atomAt 25 = some (.iload_n 2, 1, 0, 0, 26) := rfl
theorem i_M_atomAt_26 : ins m_M_atomAt 26 = some (.iconst 1, 1, 0, 0, 27) := rfl
theorem i_M_atomAt_27 : ins m_M_atomAt 27 = some (.aload_n 0, 1, 0, 0, 28) := rfl
theorem i_M_atomAt_28 : ins m_M_atomAt 28 = some (.getfield 49, 3, 1117, 0, 31) := rfl
theorem i_M_atomAt_31 : ins m_M_atomAt 31 = some (.iload_n 1, 1, 0, 0, 32) := rfl
theorem i_M_atomAt_32 : ins m_M_atomAt 32 = some (.iaload, 1, 0, 0, 33) := rfl
theorem i_M_atomAt_33 : ins m_M_atomAt 33 = some (.ishl, 1, 0, 0, 34) := rfl
theorem i_M_atomAt_34 : ins m_M_atomAt 34 = some (.invokevirtual 341, 3, 145, 3, 37) := rfl
theorem i_M_atomAt_37 : ins m_M_atomAt 37 = some (.aload_n 0, 1, 0, 0, 38) := rfl
theorem i_M_atomAt_38 : ins m_M_atomAt 38 = some (.iconst 0, 1, 0, 0, 39) := rfl
theorem i_M_atomAt_39 : ins m_M_atomAt 39 = some (.invokevirtual 345, 3, 147, 1, 42) := rfl
theorem i_M_atomAt_42 : ins m_M_atomAt 42 = some (.ireturn, 1, 0, 0, 43) := rfl
theorem i_M_goes_0 : ins m_M_goes 0 = some (.iload_n 2, 1, 0, 0, 1) := rfl
theorem i_M_goes_1 : ins m_M_goes 1 = some (.aload_n 0, 1, 0, 0, 2) := rfl
theorem i_M_goes_2 : ins m_M_goes 2 = some (.getfield 349, 3, 1141, 0, 5) := rfl
theorem i_M_goes_5 : ins m_M_goes 5 = some (.if_icmp .ge 7, 3, 12, 0, 8) := rfl
theorem i_M_goes_8 : ins m_M_goes 8 = some (.iconst 1, 1, 0, 0, 9) := rfl
theorem i_M_goes_9 : ins m_M_goes 9 = some (.goto 4, 3, 13, 0, 12) := rfl
theorem i_M_goes_12 : ins m_M_goes 12 = some (.iconst 0, 1, 0, 0, 13) := rfl
theorem i_M_goes_13 : ins m_M_goes 13 = some (.istore_n 3, 1, 0, 0, 14) := rfl
theorem i_M_goes_14 : ins m_M_goes 14 = some (.iload_n 3, 1, 0, 0, 15) := rfl
theorem i_M_goes_15 : ins m_M_goes 15 = some (.ifCond .eq 12, 3, 27, 0, 18) := rfl
theorem i_M_goes_18 : ins m_M_goes 18 = some (.aload_n 0, 1, 0, 0, 19) := rfl
theorem i_M_goes_19 : ins m_M_goes 19 = some (.getfield 80, 3, 1140, 0, 22) := rfl
theorem i_M_goes_22 : ins m_M_goes 22 = some (.iload_n 2, 1, 0, 0, 23) := rfl
theorem i_M_goes_23 : ins m_M_goes 23 = some (.iaload, 1, 0, 0, 24) := rfl
theorem i_M_goes_24 : ins m_M_goes 24 = some (.goto 4, 3, 28, 0, 27) := rfl
theorem i_M_goes_27 : ins m_M_goes 27 = some (.iconst (-1), 1, 0, 0, 28) := rfl
theorem i_M_goes_28 : ins m_M_goes 28 = some (.istore 4, 2, 0, 0, 30) := rfl
theorem i_M_goes_30 : ins m_M_goes 30 = some (.aload_n 0, 1, 0, 0, 31) := rfl
theorem i_M_goes_31 : ins m_M_goes 31 = some (.getfield 40, 3, 1114, 0, 34) := rfl
theorem i_M_goes_34 : ins m_M_goes 34 = some (.iload_n 1, 1, 0, 0, 35) := rfl
theorem i_M_goes_35 : ins m_M_goes 35 = some (.iaload, 1, 0, 0, 36) := rfl
theorem i_M_goes_36 : ins m_M_goes 36 = some (.tableswitch 435 0 11 #[64, 64, 104, 135, 145, 259, 333, 180, 212, 233, 188, 200], 64, 0, 0, 100) := rfl
theorem i_M_goes_100 : ins m_M_goes 100 = some (.aload_n 0, 1, 0, 0, 101) := rfl
theorem i_M_goes_101 : ins m_M_goes 101 = some (.iload_n 1, 1, 0, 0, 102) := rfl
theorem i_M_goes_102 : ins m_M_goes 102 = some (.iload_n 2, 1, 0, 0, 103) := rfl
theorem i_M_goes_103 : ins m_M_goes 103 = some (.iload_n 3, 1, 0, 0, 104) := rfl
theorem i_M_goes_104 : ins m_M_goes 104 = some (.ifCond .eq 29, 3, 133, 0, 107) := rfl
theorem i_M_goes_107 : ins m_M_goes 107 = some (.iload 4, 2, 0, 0, 109) := rfl
theorem i_M_goes_109 : ins m_M_goes 109 = some (.aload_n 0, 1, 0, 0, 110) := rfl
theorem i_M_goes_110 : ins m_M_goes 110 = some (.getfield 43, 3, 1115, 0, 113) := rfl
theorem i_M_goes_113 : ins m_M_goes 113 = some (.iload_n 1, 1, 0, 0, 114) := rfl
theorem i_M_goes_114 : ins m_M_goes 114 = some (.iaload, 1, 0, 0, 115) := rfl
theorem i_M_goes_115 : ins m_M_goes 115 = some (.if_icmp .lt 18, 3, 133, 0, 118) := rfl
theorem i_M_goes_118 : ins m_M_goes 118 = some (.iload 4, 2, 0, 0, 120) := rfl
theorem i_M_goes_120 : ins m_M_goes 120 = some (.aload_n 0, 1, 0, 0, 121) := rfl
theorem i_M_goes_121 : ins m_M_goes 121 = some (.getfield 46, 3, 1116, 0, 124) := rfl
theorem i_M_goes_124 : ins m_M_goes 124 = some (.iload_n 1, 1, 0, 0, 125) := rfl
theorem i_M_goes_125 : ins m_M_goes 125 = some (.iaload, 1, 0, 0, 126) := rfl
theorem i_M_goes_126 : ins m_M_goes 126 = some (.if_icmp .gt 7, 3, 133, 0, 129) := rfl
theorem i_M_goes_129 : ins m_M_goes 129 = some (.iconst 1, 1, 0, 0, 130) := rfl
theorem i_M_goes_130 : ins m_M_goes 130 = some (.goto 4, 3, 134, 0, 133) := rfl
theorem i_M_goes_133 : ins m_M_goes 133 = some (.iconst 0, 1, 0, 0, 134) := rfl
theorem i_M_goes_134 : ins m_M_goes 134 = some (.iload 4, 2, 0, 0, 136) := rfl
theorem i_M_goes_136 : ins m_M_goes 136 = some (.invokevirtual 352, 3, 150, 4, 139) := rfl
theorem i_M_goes_139 : ins m_M_goes 139 = some (.ireturn, 1, 0, 0, 140) := rfl
theorem i_M_goes_140 : ins m_M_goes 140 = some (.aload_n 0, 1, 0, 0, 141) := rfl
theorem i_M_goes_141 : ins m_M_goes 141 = some (.iload_n 1, 1, 0, 0, 142) := rfl
theorem i_M_goes_142 : ins m_M_goes 142 = some (.iload_n 2, 1, 0, 0, 143) := rfl
theorem i_M_goes_143 : ins m_M_goes 143 = some (.iload 4, 2, 0, 0, 145) := rfl
theorem i_M_goes_145 : ins m_M_goes 145 = some (.bipush 48, 2, 0, 0, 147) := rfl
theorem i_M_goes_147 : ins m_M_goes 147 = some (.if_icmp .lt 14, 3, 161, 0, 150) := rfl
theorem i_M_goes_150 : ins m_M_goes 150 = some (.iload 4, 2, 0, 0, 152) := rfl
theorem i_M_goes_152 : ins m_M_goes 152 = some (.bipush 57, 2, 0, 0, 154) := rfl
theorem i_M_goes_154 : ins m_M_goes 154 = some (.if_icmp .gt 7, 3, 161, 0, 157) := rfl
theorem i_M_goes_157 : ins m_M_goes 157 = some (.iconst 1, 1, 0, 0, 158) := rfl
theorem i_M_goes_158 : ins m_M_goes 158 = some (.goto 4, 3, 162, 0, 161) := rfl
theorem i_M_goes_161 : ins m_M_goes 161 = some (.iconst 0, 1, 0, 0, 162) := rfl
theorem i_M_goes_162 : ins m_M_goes 162 = some (.iload 4, 2, 0, 0, 164) := rfl
theorem i_M_goes_164 : ins m_M_goes 164 = some (.bipush 48, 2, 0, 0, 166) := rfl
theorem i_M_goes_166 : ins m_M_goes 166 = some (.isub, 1, 0, 0, 167) := rfl
theorem i_M_goes_167 : ins m_M_goes 167 = some (.invokevirtual 352, 3, 150, 4, 170) := rfl
theorem i_M_goes_170 : ins m_M_goes 170 = some (.ireturn, 1, 0, 0, 171) := rfl
theorem i_M_goes_171 : ins m_M_goes 171 = some (.aload_n 0, 1, 0, 0, 172) := rfl
theorem i_M_goes_172 : ins m_M_goes 172 = some (.iload_n 1, 1, 0, 0, 173) := rfl
theorem i_M_goes_173 : ins m_M_goes 173 = some (.iload_n 2, 1, 0, 0, 174) := rfl
theorem i_M_goes_174 : ins m_M_goes 174 = some (.iload_n 3, 1, 0, 0, 175) := rfl
theorem i_M_goes_175 : ins m_M_goes 175 = some (.iload 4, 2, 0, 0, 177) := rfl
theorem i_M_goes_177 : ins m_M_goes 177 = some (.invokevirtual 352, 3, 150, 4, 180) := rfl
theorem i_M_goes_180 : ins m_M_goes 180 = some (.ireturn, 1, 0, 0, 181) := rfl
theorem i_M_goes_181 : ins m_M_goes 181 = some (.iload_n 3, 1, 0, 0, 182) := rfl
theorem i_M_goes_182 : ins m_M_goes 182 = some (.ifCond .ne 11, 3, 193, 0, 185) := rfl
theorem i_M_goes_185 : ins m_M_goes 185 = some (.aload_n 0, 1, 0, 0, 186) := rfl
theorem i_M_goes_186 : ins m_M_goes 186 = some (.iload_n 2, 1, 0, 0, 187) := rfl
theorem i_M_goes_187 : ins m_M_goes 187 = some (.iconst (-1), 1, 0, 0, 188) := rfl
theorem i_M_goes_188 : ins m_M_goes 188 = some (.iconst 0, 1, 0, 0, 189) := rfl
theorem i_M_goes_189 : ins m_M_goes 189 = some (.invokevirtual 337, 3, 148, 3, 192) := rfl
theorem i_M_goes_192 : ins m_M_goes 192 = some (.ireturn, 1, 0, 0, 193) := rfl
theorem i_M_goes_193 : ins m_M_goes 193 = some (.aload_n 0, 1, 0, 0, 194) := rfl
theorem i_M_goes_194 : ins m_M_goes 194 = some (.aload_n 0, 1, 0, 0, 195) := rfl
theorem i_M_goes_195 : ins m_M_goes 195 = some (.getfield 309, 3, 1149, 0, 198) := rfl
theorem i_M_goes_198 : ins m_M_goes 198 = some (.iload_n 2, 1, 0, 0, 199) := rfl
theorem i_M_goes_199 : ins m_M_goes 199 = some (.iconst 1, 1, 0, 0, 200) := rfl
theorem i_M_goes_200 : ins m_M_goes 200 = some (.aload_n 0, 1, 0, 0, 201) := rfl
theorem i_M_goes_201 : ins m_M_goes 201 = some (.getfield 49, 3, 1117, 0, 204) := rfl
theorem i_M_goes_204 : ins m_M_goes 204 = some (.iload_n 1, 1, 0, 0, 205) := rfl
theorem i_M_goes_205 : ins m_M_goes 205 = some (.iaload, 1, 0, 0, 206) := rfl
theorem i_M_goes_206 : ins m_M_goes 206 = some (.ishl, 1, 0, 0, 207) := rfl
theorem i_M_goes_207 : ins m_M_goes 207 = some (.invokevirtual 341, 3, 145, 3, 210) := rfl
theorem i_M_goes_210 : ins m_M_goes 210 = some (.aload_n 0, 1, 0, 0, 211) := rfl
theorem i_M_goes_211 : ins m_M_goes 211 = some (.iconst 0, 1, 0, 0, 212) := rfl
theorem i_M_goes_212 : ins m_M_goes 212 = some (.invokevirtual 345, 3, 147, 1, 215) := rfl
theorem i_M_goes_215 : ins m_M_goes 215 = some (.ireturn, 1, 0, 0, 216) := rfl
theorem i_M_goes_216 : ins m_M_goes 216 = some (.aload_n 0, 1, 0, 0, 217) := rfl
theorem i_M_goes_217 : ins m_M_goes 217 = some (.iload_n 2, 1, 0, 0, 218) := rfl
theorem i_M_goes_218 : ins m_M_goes 218 = some (.iconst (-1), 1, 0, 0, 219) := rfl
theorem i_M_goes_219 : ins m_M_goes 219 = some (.iconst 1, 1, 0, 0, 220) := rfl
theorem i_M_goes_220 : ins m_M_goes 220 = some (.invokevirtual 337, 3, 148, 3, 223) := rfl
theorem i_M_goes_223 : ins m_M_goes 223 = some (.ireturn, 1, 0, 0, 224) := rfl
theorem i_M_goes_224 : ins m_M_goes 224 = some (.aload_n 0, 1, 0, 0, 225) := rfl
theorem i_M_goes_225 : ins m_M_goes 225 = some (.aload_n 0, 1, 0, 0, 226) := rfl
theorem i_M_goes_226 : ins m_M_goes 226 = some (.getfield 43, 3, 1115, 0, 229) := rfl
theorem i_M_goes_229 : ins m_M_goes 229 = some (.iload_n 1, 1, 0, 0, 230) := rfl
theorem i_M_goes_230 : ins m_M_goes 230 = some (.iaload, 1, 0, 0, 231) := rfl
theorem i_M_goes_231 : ins m_M_goes 231 = some (.iload_n 2, 1, 0, 0, 232) := rfl
theorem i_M_goes_232 : ins m_M_goes 232 = some (.invokevirtual 356, 3, 152, 2, 235) := rfl
theorem i_M_goes_235 : ins m_M_goes 235 = some (.ireturn, 1, 0, 0, 236) := rfl
theorem i_M_goes_236 : ins m_M_goes 236 = some (.aload_n 0, 1, 0, 0, 237) := rfl
theorem i_M_goes_237 : ins m_M_goes 237 = some (.aload_n 0, 1, 0, 0, 238) := rfl
theorem i_M_goes_238 : ins m_M_goes 238 = some (.getfield 43, 3, 1115, 0, 241) := rfl
theorem i_M_goes_241 : ins m_M_goes 241 = some (.iload_n 1, 1, 0, 0, 242) := rfl
theorem i_M_goes_242 : ins m_M_goes 242 = some (.iaload, 1, 0, 0, 243) := rfl
theorem i_M_goes_243 : ins m_M_goes 243 = some (.iload_n 2, 1, 0, 0, 244) := rfl
theorem i_M_goes_244 : ins m_M_goes 244 = some (.invokevirtual 359, 3, 153, 2, 247) := rfl
theorem i_M_goes_247 : ins m_M_goes 247 = some (.ireturn, 1, 0, 0, 248) := rfl
theorem i_M_goes_248 : ins m_M_goes 248 = some (.aload_n 0, 1, 0, 0, 249) := rfl
theorem i_M_goes_249 : ins m_M_goes 249 = some (.aload_n 0, 1, 0, 0, 250) := rfl
theorem i_M_goes_250 : ins m_M_goes 250 = some (.getfield 43, 3, 1115, 0, 253) := rfl
theorem i_M_goes_253 : ins m_M_goes 253 = some (.iload_n 1, 1, 0, 0, 254) := rfl
theorem i_M_goes_254 : ins m_M_goes 254 = some (.iaload, 1, 0, 0, 255) := rfl
theorem i_M_goes_255 : ins m_M_goes 255 = some (.iload_n 2, 1, 0, 0, 256) := rfl
theorem i_M_goes_256 : ins m_M_goes 256 = some (.invokevirtual 359, 3, 153, 2, 259) := rfl
theorem i_M_goes_259 : ins m_M_goes 259 = some (.istore 5, 2, 0, 0, 261) := rfl
theorem i_M_goes_261 : ins m_M_goes 261 = some (.aload_n 0, 1, 0, 0, 262) := rfl
theorem i_M_goes_262 : ins m_M_goes 262 = some (.iconst 0, 1, 0, 0, 263) := rfl
theorem i_M_goes_263 : ins m_M_goes 263 = some (.putfield 312, 3, 1152, 0, 266) := rfl
theorem i_M_goes_266 : ins m_M_goes 266 = some (.iload 5, 2, 0, 0, 268) := rfl
theorem i_M_goes_268 : ins m_M_goes 268 = some (.ireturn, 1, 0, 0, 269) := rfl
theorem i_M_goes_269 : ins m_M_goes 269 = some (.aload_n 0, 1, 0, 0, 270) := rfl
theorem i_M_goes_270 : ins m_M_goes 270 = some (.aload_n 0, 1, 0, 0, 271) := rfl
theorem i_M_goes_271 : ins m_M_goes 271 = some (.getfield 43, 3, 1115, 0, 274) := rfl
theorem i_M_goes_274 : ins m_M_goes 274 = some (.iload_n 1, 1, 0, 0, 275) := rfl
theorem i_M_goes_275 : ins m_M_goes 275 = some (.iaload, 1, 0, 0, 276) := rfl
theorem i_M_goes_276 : ins m_M_goes 276 = some (.iload_n 2, 1, 0, 0, 277) := rfl
theorem i_M_goes_277 : ins m_M_goes 277 = some (.invokevirtual 359, 3, 153, 2, 280) := rfl
theorem i_M_goes_280 : ins m_M_goes 280 = some (.istore 5, 2, 0, 0, 282) := rfl
theorem i_M_goes_282 : ins m_M_goes 282 = some (.aload_n 0, 1, 0, 0, 283) := rfl
theorem i_M_goes_283 : ins m_M_goes 283 = some (.iload_n 2, 1, 0, 0, 284) := rfl
theorem i_M_goes_284 : ins m_M_goes 284 = some (.putfield 315, 3, 1147, 0, 287) := rfl
theorem i_M_goes_287 : ins m_M_goes 287 = some (.aload_n 0, 1, 0, 0, 288) := rfl
theorem i_M_goes_288 : ins m_M_goes 288 = some (.iconst 0, 1, 0, 0, 289) := rfl
theorem i_M_goes_289 : ins m_M_goes 289 = some (.putfield 312, 3, 1152, 0, 292) := rfl
theorem i_M_goes_292 : ins m_M_goes 292 = some (.iload 5, 2, 0, 0, 294) := rfl
theorem i_M_goes_294 : ins m_M_goes 294 = some (.ireturn, 1, 0, 0, 295) := rfl
theorem i_M_goes_295 : ins m_M_goes 295 = some (.aload_n 0, 1, 0, 0, 296) := rfl
theorem i_M_goes_296 : ins m_M_goes 296 = some (.bipush (-2), 2, 0, 0, 298) := rfl
theorem i_M_goes_298 : ins m_M_goes 298 = some (.invokevirtual 362, 3, 146, 1, 301) := rfl
theorem i_M_goes_301 : ins m_M_goes 301 = some (.aload_n 0, 1, 0, 0, 302) := rfl
theorem i_M_goes_302 : ins m_M_goes 302 = some (.aload_n 0, 1, 0, 0, 303) := rfl
theorem i_M_goes_303 : ins m_M_goes 303 = some (.getfield 43, 3, 1115, 0, 306) := rfl
theorem i_M_goes_306 : ins m_M_goes 306 = some (.iload_n 1, 1, 0, 0, 307) := rfl
theorem i_M_goes_307 : ins m_M_goes 307 = some (.iaload, 1, 0, 0, 308) := rfl
theorem i_M_goes_308 : ins m_M_goes 308 = some (.iload_n 2, 1, 0, 0, 309) := rfl
theorem i_M_goes_309 : ins m_M_goes 309 = some (.invokevirtual 359, 3, 153, 2, 312) := rfl
theorem i_M_goes_312 : ins m_M_goes 312 = some (.istore 5, 2, 0, 0, 314) := rfl
theorem i_M_goes_314 : ins m_M_goes 314 = some (.aload_n 0, 1, 0, 0, 315) := rfl
theorem i_M_goes_315 : ins m_M_goes 315 = some (.getfield 306, 3, 1142, 0, 318) := rfl
theorem i_M_goes_318 : ins m_M_goes 318 = some (.ifCond .eq 5, 3, 323, 0, 321) := rfl
theorem i_M_goes_321 : ins m_M_goes 321 = some (.iconst 0, 1, 0, 0, 322) := rfl
theorem i_M_goes_322 : ins m_M_goes 322 = some (.ireturn, 1, 0, 0, 323) := rfl
theorem i_M_goes_323 : ins m_M_goes 323 = some (.aload_n 0, 1, 0, 0, 324) := rfl
theorem i_M_goes_324 : ins m_M_goes 324 = some (.dup, 1, 0, 0, 325) := rfl
theorem i_M_goes_325 : ins m_M_goes 325 = some (.getfield 309, 3, 1149, 0, 328) := rfl
theorem i_M_goes_328 : ins m_M_goes 328 = some (.iconst 1, 1, 0, 0, 329) := rfl
theorem i_M_goes_329 : ins m_M_goes 329 = some (.isub, 1, 0, 0, 330) := rfl
theorem i_M_goes_330 : ins m_M_goes 330 = some (.putfield 309, 3, 1149, 0, 333) := rfl
theorem i_M_goes_333 : ins m_M_goes 333 = some (.iload 5, 2, 0, 0, 335) := rfl
theorem i_M_goes_335 : ins m_M_goes 335 = some (.ifCond .ne 11, 3, 346, 0, 338) := rfl
theorem i_M_goes_338 : ins m_M_goes 338 = some (.aload_n 0, 1, 0, 0, 339) := rfl
theorem i_M_goes_339 : ins m_M_goes 339 = some (.iload_n 2, 1, 0, 0, 340) := rfl
theorem i_M_goes_340 : ins m_M_goes 340 = some (.iconst (-1), 1, 0, 0, 341) := rfl
theorem i_M_goes_341 : ins m_M_goes 341 = some (.iconst 0, 1, 0, 0, 342) := rfl
theorem i_M_goes_342 : ins m_M_goes 342 = some (.invokevirtual 337, 3, 148, 3, 345) := rfl
theorem i_M_goes_345 : ins m_M_goes 345 = some (.ireturn, 1, 0, 0, 346) := rfl
theorem i_M_goes_346 : ins m_M_goes 346 = some (.aload_n 0, 1, 0, 0, 347) := rfl
theorem i_M_goes_347 : ins m_M_goes 347 = some (.aload_n 0, 1, 0, 0, 348) := rfl
theorem i_M_goes_348 : ins m_M_goes 348 = some (.getfield 309, 3, 1149, 0, 351) := rfl
theorem i_M_goes_351 : ins m_M_goes 351 = some (.iload_n 2, 1, 0, 0, 352) := rfl
theorem i_M_goes_352 : ins m_M_goes 352 = some (.iconst 1, 1, 0, 0, 353) := rfl
theorem i_M_goes_353 : ins m_M_goes 353 = some (.aload_n 0, 1, 0, 0, 354) := rfl
theorem i_M_goes_354 : ins m_M_goes 354 = some (.getfield 49, 3, 1117, 0, 357) := rfl
theorem i_M_goes_357 : ins m_M_goes 357 = some (.iload_n 1, 1, 0, 0, 358) := rfl
theorem i_M_goes_358 : ins m_M_goes 358 = some (.iaload, 1, 0, 0, 359) := rfl
theorem i_M_goes_359 : ins m_M_goes 359 = some (.ishl, 1, 0, 0, 360) := rfl
theorem i_M_goes_360 : ins m_M_goes 360 = some (.invokevirtual 341, 3, 145, 3, 363) := rfl
theorem i_M_goes_363 : ins m_M_goes 363 = some (.aload_n 0, 1, 0, 0, 364) := rfl
theorem i_M_goes_364 : ins m_M_goes 364 = some (.iconst 0, 1, 0, 0, 365) := rfl
theorem i_M_goes_365 : ins m_M_goes 365 = some (.invokevirtual 345, 3, 147, 1, 368) := rfl
theorem i_M_goes_368 : ins m_M_goes 368 = some (.ireturn, 1, 0, 0, 369) := rfl
theorem i_M_goes_369 : ins m_M_goes 369 = some (.aload_n 0, 1, 0, 0, 370) := rfl
theorem i_M_goes_370 : ins m_M_goes 370 = some (.iload_n 2, 1, 0, 0, 371) := rfl
theorem i_M_goes_371 : ins m_M_goes 371 = some (.invokevirtual 362, 3, 146, 1, 374) := rfl
theorem i_M_goes_374 : ins m_M_goes 374 = some (.aload_n 0, 1, 0, 0, 375) := rfl
theorem i_M_goes_375 : ins m_M_goes 375 = some (.aload_n 0, 1, 0, 0, 376) := rfl
theorem i_M_goes_376 : ins m_M_goes 376 = some (.getfield 43, 3, 1115, 0, 379) := rfl
theorem i_M_goes_379 : ins m_M_goes 379 = some (.iload_n 1, 1, 0, 0, 380) := rfl
theorem i_M_goes_380 : ins m_M_goes 380 = some (.iaload, 1, 0, 0, 381) := rfl
theorem i_M_goes_381 : ins m_M_goes 381 = some (.iload_n 2, 1, 0, 0, 382) := rfl
theorem i_M_goes_382 : ins m_M_goes 382 = some (.invokevirtual 359, 3, 153, 2, 385) := rfl
theorem i_M_goes_385 : ins m_M_goes 385 = some (.istore 5, 2, 0, 0, 387) := rfl
theorem i_M_goes_387 : ins m_M_goes 387 = some (.aload_n 0, 1, 0, 0, 388) := rfl
theorem i_M_goes_388 : ins m_M_goes 388 = some (.getfield 306, 3, 1142, 0, 391) := rfl
theorem i_M_goes_391 : ins m_M_goes 391 = some (.ifCond .eq 5, 3, 396, 0, 394) := rfl
theorem i_M_goes_394 : ins m_M_goes 394 = some (.iconst 0, 1, 0, 0, 395) := rfl
theorem i_M_goes_395 : ins m_M_goes 395 = some (.ireturn, 1, 0, 0, 396) := rfl
theorem i_M_goes_396 : ins m_M_goes 396 = some (.aload_n 0, 1, 0, 0, 397) := rfl
theorem i_M_goes_397 : ins m_M_goes 397 = some (.dup, 1, 0, 0, 398) := rfl
theorem i_M_goes_398 : ins m_M_goes 398 = some (.getfield 309, 3, 1149, 0, 401) := rfl
theorem i_M_goes_401 : ins m_M_goes 401 = some (.iconst 1, 1, 0, 0, 402) := rfl
theorem i_M_goes_402 : ins m_M_goes 402 = some (.isub, 1, 0, 0, 403) := rfl
theorem i_M_goes_403 : ins m_M_goes 403 = some (.putfield 309, 3, 1149, 0, 406) := rfl
theorem i_M_goes_406 : ins m_M_goes 406 = some (.aload_n 0, 1, 0, 0, 407) := rfl
theorem i_M_goes_407 : ins m_M_goes 407 = some (.getfield 309, 3, 1149, 0, 410) := rfl
theorem i_M_goes_410 : ins m_M_goes 410 = some (.iconst 1, 1, 0, 0, 411) := rfl
theorem i_M_goes_411 : ins m_M_goes 411 = some (.iadd, 1, 0, 0, 412) := rfl
theorem i_M_goes_412 : ins m_M_goes 412 = some (.istore 6, 2, 0, 0, 414) := rfl
theorem i_M_goes_414 : ins m_M_goes 414 = some (.aload_n 0, 1, 0, 0, 415) := rfl
theorem i_M_goes_415 : ins m_M_goes 415 = some (.aload_n 0, 1, 0, 0, 416) := rfl
theorem i_M_goes_416 : ins m_M_goes 416 = some (.getfield 309, 3, 1149, 0, 419) := rfl
theorem i_M_goes_419 : ins m_M_goes 419 = some (.aload_n 0, 1, 0, 0, 420) := rfl
theorem i_M_goes_420 : ins m_M_goes 420 = some (.getfield 104, 3, 1160, 0, 423) := rfl
theorem i_M_goes_423 : ins m_M_goes 423 = some (.iload 6, 2, 0, 0, 425) := rfl
theorem i_M_goes_425 : ins m_M_goes 425 = some (.iaload, 1, 0, 0, 426) := rfl
theorem i_M_goes_426 : ins m_M_goes 426 = some (.aload_n 0, 1, 0, 0, 427) := rfl
theorem i_M_goes_427 : ins m_M_goes 427 = some (.getfield 107, 3, 1161, 0, 430) := rfl
theorem i_M_goes_430 : ins m_M_goes 430 = some (.iload 6, 2, 0, 0, 432) := rfl
theorem i_M_goes_432 : ins m_M_goes 432 = some (.iaload, 1, 0, 0, 433) := rfl
theorem i_M_goes_433 : ins m_M_goes 433 = some (.invokevirtual 341, 3, 145, 3, 436) := rfl
theorem i_M_goes_436 : ins m_M_goes 436 = some (.aload_n 0, 1, 0, 0, 437) := rfl
theorem i_M_goes_437 : ins m_M_goes 437 = some (.aload_n 0, 1, 0, 0, 438) := rfl
theorem i_M_goes_438 : ins m_M_goes 438 = some (.getfield 309, 3, 1149, 0, 441) := rfl
theorem i_M_goes_441 : ins m_M_goes 441 = some (.iload_n 2, 1, 0, 0, 442) := rfl
theorem i_M_goes_442 : ins m_M_goes 442 = some (.iload 5, 2, 0, 0, 444) := rfl
theorem i_M_goes_444 : ins m_M_goes 444 = some (.ifCond .eq 13, 3, 457, 0, 447) := rfl
theorem i_M_goes_447 : ins m_M_goes 447 = some (.aload_n 0, 1, 0, 0, 448) := rfl
theorem i_M_goes_448 : ins m_M_goes 448 = some (.getfield 101, 3, 1159, 0, 451) := rfl
theorem i_M_goes_451 : ins m_M_goes 451 = some (.iload 6, 2, 0, 0, 453) := rfl
theorem i_M_goes_453 : ins m_M_goes 453 = some (.iaload, 1, 0, 0, 454) := rfl
theorem i_M_goes_454 : ins m_M_goes 454 = some (.goto 11, 3, 465, 0, 457) := rfl
theorem i_M_goes_457 : ins m_M_goes 457 = some (.iconst 1, 1, 0, 0, 458) := rfl
theorem i_M_goes_458 : ins m_M_goes 458 = some (.aload_n 0, 1, 0, 0, 459) := rfl
theorem i_M_goes_459 : ins m_M_goes 459 = some (.getfield 49, 3, 1117, 0, 462) := rfl
theorem i_M_goes_462 : ins m_M_goes 462 = some (.iload_n 1, 1, 0, 0, 463) := rfl
theorem i_M_goes_463 : ins m_M_goes 463 = some (.iaload, 1, 0, 0, 464) := rfl
theorem i_M_goes_464 : ins m_M_goes 464 = some (.ishl, 1, 0, 0, 465) := rfl
theorem i_M_goes_465 : ins m_M_goes 465 = some (.invokevirtual 341, 3, 145, 3, 468) := rfl
theorem i_M_goes_468 : ins m_M_goes 468 = some (.iload 5, 2, 0, 0, 470) := rfl
theorem i_M_goes_470 : ins m_M_goes 470 = some (.ireturn, 1, 0, 0, 471) := rfl
theorem i_M_goes_471 : ins m_M_goes 471 = some (.aload_n 0, 1, 0, 0, 472) := rfl
theorem i_M_goes_472 : ins m_M_goes 472 = some (.aload_n 0, 1, 0, 0, 473) := rfl
theorem i_M_goes_473 : ins m_M_goes 473 = some (.getfield 43, 3, 1115, 0, 476) := rfl
theorem i_M_goes_476 : ins m_M_goes 476 = some (.iload_n 1, 1, 0, 0, 477) := rfl
theorem i_M_goes_477 : ins m_M_goes 477 = some (.iaload, 1, 0, 0, 478) := rfl
theorem i_M_goes_478 : ins m_M_goes 478 = some (.aload_n 0, 1, 0, 0, 479) := rfl
theorem i_M_goes_479 : ins m_M_goes 479 = some (.getfield 46, 3, 1116, 0, 482) := rfl
theorem i_M_goes_482 : ins m_M_goes 482 = some (.iload_n 1, 1, 0, 0, 483) := rfl
theorem i_M_goes_483 : ins m_M_goes 483 = some (.iaload, 1, 0, 0, 484) := rfl
theorem i_M_goes_484 : ins m_M_goes 484 = some (.iload_n 2, 1, 0, 0, 485) := rfl
theorem i_M_goes_485 : ins m_M_goes 485 = some (.invokevirtual 365, 3, 157, 3, 488) := rfl
theorem i_M_goes_488 : ins m_M_goes 488 = some (.ireturn, 1, 0, 0, 489) := rfl
theorem i_M_named_0 : ins m_M_named 0 = some (.sipush 241, 3, 0, 0, 3) := rfl
theorem i_M_named_3 : ins m_M_named 3 = some (.iload_n 1, 1, 0, 0, 4) := rfl
theorem i_M_named_4 : ins m_M_named 4 = some (.imul, 1, 0, 0, 5) := rfl
theorem i_M_named_5 : ins m_M_named 5 = some (.iload_n 2, 1, 0, 0, 6) := rfl
theorem i_M_named_6 : ins m_M_named 6 = some (.iadd, 1, 0, 0, 7) := rfl
theorem i_M_named_7 : ins m_M_named 7 = some (.istore_n 3, 1, 0, 0, 8) := rfl
theorem i_M_named_8 : ins m_M_named 8 = some (.aload_n 0, 1, 0, 0, 9) := rfl
theorem i_M_named_9 : ins m_M_named 9 = some (.getfield 83, 3, 1153, 0, 12) := rfl
theorem i_M_named_12 : ins m_M_named 12 = some (.iload_n 3, 1, 0, 0, 13) := rfl
theorem i_M_named_13 : ins m_M_named 13 = some (.iaload, 1, 0, 0, 14) := rfl
theorem i_M_named_14 : ins m_M_named 14 = some (.ifCond .eq 59, 3, 73, 0, 17) := rfl
theorem i_M_named_17 : ins m_M_named 17 = some (.aload_n 0, 1, 0, 0, 18) := rfl
theorem i_M_named_18 : ins m_M_named 18 = some (.dup, 1, 0, 0, 19) := rfl
theorem i_M_named_19 : ins m_M_named 19 = some (.getfield 369, 3, 1146, 0, 22) := rfl
theorem i_M_named_22 : ins m_M_named 22 = some (.iconst 1, 1, 0, 0, 23) := rfl
theorem i_M_named_23 : ins m_M_named 23 = some (.iadd, 1, 0, 0, 24) := rfl
theorem i_M_named_24 : ins m_M_named 24 = some (.putfield 369, 3, 1146, 0, 27) := rfl
theorem i_M_named_27 : ins m_M_named 27 = some (.aload_n 0, 1, 0, 0, 28) := rfl
theorem i_M_named_28 : ins m_M_named 28 = some (.getfield 83, 3, 1153, 0, 31) := rfl
theorem i_M_named_31 : ins m_M_named 31 = some (.iload_n 3, 1, 0, 0, 32) := rfl
theorem i_M_named_32 : ins m_M_named 32 = some (.iaload, 1, 0, 0, 33) := rfl
theorem i_M_named_33 : ins m_M_named 33 = some (.iconst 1, 1, 0, 0, 34) := rfl
theorem i_M_named_34 : ins m_M_named 34 = some (.if_icmp .ne 28, 3, 62, 0, 37) := rfl
theorem i_M_named_37 : ins m_M_named 37 = some (.aload_n 0, 1, 0, 0, 38) := rfl
theorem i_M_named_38 : ins m_M_named 38 = some (.aload_n 0, 1, 0, 0, 39) := rfl
theorem i_M_named_39 : ins m_M_named 39 = some (.getfield 86, 3, 1154, 0, 42) := rfl
theorem i_M_named_42 : ins m_M_named 42 = some (.iload_n 3, 1, 0, 0, 43) := rfl
theorem i_M_named_43 : ins m_M_named 43 = some (.iaload, 1, 0, 0, 44) := rfl
theorem i_M_named_44 : ins m_M_named 44 = some (.aload_n 0, 1, 0, 0, 45) := rfl
theorem i_M_named_45 : ins m_M_named 45 = some (.getfield 89, 3, 1155, 0, 48) := rfl
theorem i_M_named_48 : ins m_M_named 48 = some (.iload_n 3, 1, 0, 0, 49) := rfl
theorem i_M_named_49 : ins m_M_named 49 = some (.iaload, 1, 0, 0, 50) := rfl
theorem i_M_named_50 : ins m_M_named 50 = some (.aload_n 0, 1, 0, 0, 51) := rfl
theorem i_M_named_51 : ins m_M_named 51 = some (.getfield 92, 3, 1156, 0, 54) := rfl
theorem i_M_named_54 : ins m_M_named 54 = some (.iload_n 3, 1, 0, 0, 55) := rfl
theorem i_M_named_55 : ins m_M_named 55 = some (.baload, 1, 0, 0, 56) := rfl
theorem i_M_named_56 : ins m_M_named 56 = some (.invokevirtual 337, 3, 148, 3, 59) := rfl
theorem i_M_named_59 : ins m_M_named 59 = some (.goto 13, 3, 72, 0, 62) := rfl
theorem i_M_named_62 : ins m_M_named 62 = some (.aload_n 0, 1, 0, 0, 63) := rfl
theorem i_M_named_63 : ins m_M_named 63 = some (.aload_n 0, 1, 0, 0, 64) := rfl
theorem i_M_named_64 : ins m_M_named 64 = some (.getfield 92, 3, 1156, 0, 67) := rfl
theorem i_M_named_67 : ins m_M_named 67 = some (.iload_n 3, 1, 0, 0, 68) := rfl
theorem i_M_named_68 : ins m_M_named 68 = some (.baload, 1, 0, 0, 69) := rfl
theorem i_M_named_69 : ins m_M_named 69 = some (.invokevirtual 345, 3, 147, 1, 72) := rfl
theorem i_M_named_72 : ins m_M_named 72 = some (.ireturn, 1, 0, 0, 73) := rfl
theorem i_M_named_73 : ins m_M_named 73 = some (.aload_n 0, 1, 0, 0, 74) := rfl
theorem i_M_named_74 : ins m_M_named 74 = some (.getfield 95, 3, 1157, 0, 77) := rfl
theorem i_M_named_77 : ins m_M_named 77 = some (.iload_n 3, 1, 0, 0, 78) := rfl
theorem i_M_named_78 : ins m_M_named 78 = some (.baload, 1, 0, 0, 79) := rfl
theorem i_M_named_79 : ins m_M_named 79 = some (.ifCond .eq 11, 3, 90, 0, 82) := rfl
theorem i_M_named_82 : ins m_M_named 82 = some (.aload_n 0, 1, 0, 0, 83) := rfl
theorem i_M_named_83 : ins m_M_named 83 = some (.bipush (-16), 2, 0, 0, 85) := rfl
theorem i_M_named_85 : ins m_M_named 85 = some (.putfield 306, 3, 1142, 0, 88) := rfl
theorem i_M_named_88 : ins m_M_named 88 = some (.iconst 0, 1, 0, 0, 89) := rfl
theorem i_M_named_89 : ins m_M_named 89 = some (.ireturn, 1, 0, 0, 90) := rfl
theorem i_M_named_90 : ins m_M_named 90 = some (.aload_n 0, 1, 0, 0, 91) := rfl
theorem i_M_named_91 : ins m_M_named 91 = some (.getfield 95, 3, 1157, 0, 94) := rfl
theorem i_M_named_94 : ins m_M_named 94 = some (.iload_n 3, 1, 0, 0, 95) := rfl
theorem i_M_named_95 : ins m_M_named 95 = some (.iconst 1, 1, 0, 0, 96) := rfl
theorem i_M_named_96 : ins m_M_named 96 = some (.bastore, 1, 0, 0, 97) := rfl
theorem i_M_named_97 : ins m_M_named 97 = some (.aload_n 0, 1, 0, 0, 98) := rfl
theorem i_M_named_98 : ins m_M_named 98 = some (.aload_n 0, 1, 0, 0, 99) := rfl
theorem i_M_named_99 : ins m_M_named 99 = some (.getfield 19, 3, 1107, 0, 102) := rfl
theorem i_M_named_102 : ins m_M_named 102 = some (.iload_n 1, 1, 0, 0, 103) := rfl
theorem i_M_named_103 : ins m_M_named 103 = some (.iaload, 1, 0, 0, 104) := rfl
theorem i_M_named_104 : ins m_M_named 104 = some (.iload_n 2, 1, 0, 0, 105) := rfl
theorem i_M_named_105 : ins m_M_named 105 = some (.invokevirtual 359, 3, 153, 2, 108) := rfl
theorem i_M_named_108 : ins m_M_named 108 = some (.istore 4, 2, 0, 0, 110) := rfl
theorem i_M_named_110 : ins m_M_named 110 = some (.aload_n 0, 1, 0, 0, 111) := rfl
theorem i_M_named_111 : ins m_M_named 111 = some (.getfield 306, 3, 1142, 0, 114) := rfl
theorem i_M_named_114 : ins m_M_named 114 = some (.ifCond .eq 5, 3, 119, 0, 117) := rfl
theorem i_M_named_117 : ins m_M_named 117 = some (.iconst 0, 1, 0, 0, 118) := rfl
theorem i_M_named_118 : ins m_M_named 118 = some (.ireturn, 1, 0, 0, 119) := rfl
theorem i_M_named_119 : ins m_M_named 119 = some (.aload_n 0, 1, 0, 0, 120) := rfl
theorem i_M_named_120 : ins m_M_named 120 = some (.getfield 95, 3, 1157, 0, 123) := rfl
theorem i_M_named_123 : ins m_M_named 123 = some (.iload_n 3, 1, 0, 0, 124) := rfl
theorem i_M_named_124 : ins m_M_named 124 = some (.iconst 0, 1, 0, 0, 125) := rfl
theorem i_M_named_125 : ins m_M_named 125 = some (.bastore, 1, 0, 0, 126) := rfl
theorem i_M_named_126 : ins m_M_named 126 = some (.aload_n 0, 1, 0, 0, 127) := rfl
theorem i_M_named_127 : ins m_M_named 127 = some (.getfield 83, 3, 1153, 0, 130) := rfl
theorem i_M_named_130 : ins m_M_named 130 = some (.iload_n 3, 1, 0, 0, 131) := rfl
theorem i_M_named_131 : ins m_M_named 131 = some (.iload 4, 2, 0, 0, 133) := rfl
theorem i_M_named_133 : ins m_M_named 133 = some (.ifCond .eq 7, 3, 140, 0, 136) := rfl
theorem i_M_named_136 : ins m_M_named 136 = some (.iconst 1, 1, 0, 0, 137) := rfl
theorem i_M_named_137 : ins m_M_named 137 = some (.goto 4, 3, 141, 0, 140) := rfl
theorem i_M_named_140 : ins m_M_named 140 = some (.iconst 2, 1, 0, 0, 141) := rfl
theorem i_M_named_141 : ins m_M_named 141 = some (.iastore, 1, 0, 0, 142) := rfl
theorem i_M_named_142 : ins m_M_named 142 = some (.aload_n 0, 1, 0, 0, 143) := rfl
theorem i_M_named_143 : ins m_M_named 143 = some (.getfield 86, 3, 1154, 0, 146) := rfl
theorem i_M_named_146 : ins m_M_named 146 = some (.iload_n 3, 1, 0, 0, 147) := rfl
theorem i_M_named_147 : ins m_M_named 147 = some (.aload_n 0, 1, 0, 0, 148) := rfl
theorem i_M_named_148 : ins m_M_named 148 = some (.getfield 315, 3, 1147, 0, 151) := rfl
theorem i_M_named_151 : ins m_M_named 151 = some (.iastore, 1, 0, 0, 152) := rfl
theorem i_M_named_152 : ins m_M_named 152 = some (.aload_n 0, 1, 0, 0, 153) := rfl
theorem i_M_named_153 : ins m_M_named 153 = some (.getfield 89, 3, 1155, 0, 156) := rfl
theorem i_M_named_156 : ins m_M_named 156 = some (.iload_n 3, 1, 0, 0, 157) := rfl
theorem i_M_named_157 : ins m_M_named 157 = some (.aload_n 0, 1, 0, 0, 158) := rfl
theorem i_M_named_158 : ins m_M_named 158 = some (.getfield 318, 3, 1148, 0, 161) := rfl
theorem i_M_named_161 : ins m_M_named 161 = some (.iastore, 1, 0, 0, 162) := rfl
theorem i_M_named_162 : ins m_M_named 162 = some (.aload_n 0, 1, 0, 0, 163) := rfl
theorem i_M_named_163 : ins m_M_named 163 = some (.getfield 92, 3, 1156, 0, 166) := rfl
theorem i_M_named_166 : ins m_M_named 166 = some (.iload_n 3, 1, 0, 0, 167) := rfl
theorem i_M_named_167 : ins m_M_named 167 = some (.aload_n 0, 1, 0, 0, 168) := rfl
theorem i_M_named_168 : ins m_M_named 168 = some (.getfield 312, 3, 1152, 0, 171) := rfl
theorem i_M_named_171 : ins m_M_named 171 = some (.bastore, 1, 0, 0, 172) := rfl
theorem i_M_named_172 : ins m_M_named 172 = some (.iload 4, 2, 0, 0, 174) := rfl
theorem i_M_named_174 : ins m_M_named 174 = some (.ireturn, 1, 0, 0, 175) := rfl
theorem i_M_altAt_0 : ins m_M_altAt 0 = some (.aload_n 0, 1, 0, 0, 1) := rfl
theorem i_M_altAt_1 : ins m_M_altAt 1 = some (.getfield 22, 3, 1108, 0, 4) := rfl
theorem i_M_altAt_4 : ins m_M_altAt 4 = some (.iload_n 1, 1, 0, 0, 5) := rfl
theorem i_M_altAt_5 : ins m_M_altAt 5 = some (.iaload, 1, 0, 0, 6) := rfl
theorem i_M_altAt_6 : ins m_M_altAt 6 = some (.istore_n 3, 1, 0, 0, 7) := rfl
theorem i_M_altAt_7 : ins m_M_altAt 7 = some (.iload_n 3, 1, 0, 0, 8) := rfl
theorem i_M_altAt_8 : ins m_M_altAt 8 = some (.iconst (-1), 1, 0, 0, 9) := rfl
theorem i_M_altAt_9 : ins m_M_altAt 9 = some (.if_icmp .eq 45, 3, 54, 0, 12) := rfl
theorem i_M_altAt_12 : ins m_M_altAt 12 = some (.aload_n 0, 1, 0, 0, 13) := rfl
theorem i_M_altAt_13 : ins m_M_altAt 13 = some (.iload_n 3, 1, 0, 0, 14) := rfl
theorem i_M_altAt_14 : ins m_M_altAt 14 = some (.iload_n 2, 1, 0, 0, 15) := rfl
theorem i_M_altAt_15 : ins m_M_altAt 15 = some (.invokevirtual 372, 3, 154, 2, 18) := rfl
theorem i_M_altAt_18 : ins m_M_altAt 18 = some (.istore 4, 2, 0, 0, 20) := rfl
theorem i_M_altAt_20 : ins m_M_altAt 20 = some (.aload_n 0, 1, 0, 0, 21) := rfl
theorem i_M_altAt_21 : ins m_M_altAt 21 = some (.getfield 306, 3, 1142, 0, 24) := rfl
theorem i_M_altAt_24 : ins m_M_altAt 24 = some (.ifCond .eq 5, 3, 29, 0, 27) := rfl
theorem i_M_altAt_27 : ins m_M_altAt 27 = some (.iconst 0, 1, 0, 0, 28) := rfl
theorem i_M_altAt_28 : ins m_M_altAt 28 = some (.ireturn, 1, 0, 0, 29) := rfl
theorem i_M_altAt_29 : ins m_M_altAt 29 = some (.iload 4, 2, 0, 0, 31) := rfl
theorem i_M_altAt_31 : ins m_M_altAt 31 = some (.ifCond .ne 10, 3, 41, 0, 34) := rfl
theorem i_M_altAt_34 : ins m_M_altAt 34 = some (.aload_n 0, 1, 0, 0, 35) := rfl
theorem i_M_altAt_35 : ins m_M_altAt 35 = some (.getfield 312, 3, 1152, 0, 38) := rfl
theorem i_M_altAt_38 : ins m_M_altAt 38 = some (.ifCond .eq 6, 3, 44, 0, 41) := rfl
theorem i_M_altAt_41 : ins m_M_altAt 41 = some (.iload 4, 2, 0, 0, 43) := rfl
theorem i_M_altAt_43 : ins m_M_altAt 43 = some (.ireturn, 1, 0, 0, 44) := rfl
theorem i_M_altAt_44 : ins m_M_altAt 44 = some (.aload_n 0, 1, 0, 0, 45) := rfl
theorem i_M_altAt_45 : ins m_M_altAt 45 = some (.getfield 28, 3, 1110, 0, 48) := rfl
theorem i_M_altAt_48 : ins m_M_altAt 48 = some (.iload_n 3, 1, 0, 0, 49) := rfl
theorem i_M_altAt_49 : ins m_M_altAt 49 = some (.iaload, 1, 0, 0, 50) := rfl
theorem i_M_altAt_50 : ins m_M_altAt 50 = some (.istore_n 3, 1, 0, 0, 51) := rfl
theorem i_M_altAt_51 : ins m_M_altAt 51 = some (.goto (-44), 3, 7, 0, 54) := rfl
theorem i_M_altAt_54 : ins m_M_altAt 54 = some (.aload_n 0, 1, 0, 0, 55) := rfl
theorem i_M_altAt_55 : ins m_M_altAt 55 = some (.iconst 0, 1, 0, 0, 56) := rfl
theorem i_M_altAt_56 : ins m_M_altAt 56 = some (.invokevirtual 345, 3, 147, 1, 59) := rfl
theorem i_M_altAt_59 : ins m_M_altAt 59 = some (.ireturn, 1, 0, 0, 60) := rfl
theorem i_M_seqAt_0 : ins m_M_seqAt 0 = some (.iload_n 2, 1, 0, 0, 1) := rfl
theorem i_M_seqAt_1 : ins m_M_seqAt 1 = some (.istore_n 3, 1, 0, 0, 2) := rfl
theorem i_M_seqAt_2 : ins m_M_seqAt 2 = some (.iconst 0, 1, 0, 0, 3) := rfl
theorem i_M_seqAt_3 : ins m_M_seqAt 3 = some (.istore 4, 2, 0, 0, 5) := rfl
theorem i_M_seqAt_5 : ins m_M_seqAt 5 = some (.iconst (-1), 1, 0, 0, 6) := rfl
theorem i_M_seqAt_6 : ins m_M_seqAt 6 = some (.istore 5, 2, 0, 0, 8) := rfl
theorem i_M_seqAt_8 : ins m_M_seqAt 8 = some (.iconst (-1), 1, 0, 0, 9) := rfl
theorem i_M_seqAt_9 : ins m_M_seqAt 9 = some (.istore 6, 2, 0, 0, 11) := rfl
theorem i_M_seqAt_11 : ins m_M_seqAt 11 = some (.iconst (-1), 1, 0, 0, 12) := rfl
theorem i_M_seqAt_12 : ins m_M_seqAt 12 = some (.istore 7, 2, 0, 0, 14) := rfl
theorem i_M_seqAt_14 : ins m_M_seqAt 14 = some (.aload_n 0, 1, 0, 0, 15) := rfl
theorem i_M_seqAt_15 : ins m_M_seqAt 15 = some (.getfield 25, 3, 1109, 0, 18) := rfl
theorem i_M_seqAt_18 : ins m_M_seqAt 18 = some (.iload_n 1, 1, 0, 0, 19) := rfl
theorem i_M_seqAt_19 : ins m_M_seqAt 19 = some (.iaload, 1, 0, 0, 20) := rfl
theorem i_M_seqAt_20 : ins m_M_seqAt 20 = some (.istore 8, 2, 0, 0, 22) := rfl
theorem i_M_seqAt_22 : ins m_M_seqAt 22 = some (.iload 8, 2, 0, 0, 24) := rfl
theorem i_M_seqAt_24 : ins m_M_seqAt 24 = some (.iconst (-1), 1, 0, 0, 25) := rfl
theorem i_M_seqAt_25 : ins m_M_seqAt 25 = some (.if_icmp .eq 178, 3, 203, 0, 28) := rfl
theorem i_M_seqAt_28 : ins m_M_seqAt 28 = some (.aload_n 0, 1, 0, 0, 29) := rfl
theorem i_M_seqAt_29 : ins m_M_seqAt 29 = some (.iload 8, 2, 0, 0, 31) := rfl
theorem i_M_seqAt_31 : ins m_M_seqAt 31 = some (.iload_n 3, 1, 0, 0, 32) := rfl
theorem i_M_seqAt_32 : ins m_M_seqAt 32 = some (.invokevirtual 375, 3, 155, 2, 35) := rfl
theorem i_M_seqAt_35 : ins m_M_seqAt 35 = some (.istore 9, 2, 0, 0, 37) := rfl
theorem i_M_seqAt_37 : ins m_M_seqAt 37 = some (.aload_n 0, 1, 0, 0, 38) := rfl
theorem i_M_seqAt_38 : ins m_M_seqAt 38 = some (.getfield 306, 3, 1142, 0, 41) := rfl
theorem i_M_seqAt_41 : ins m_M_seqAt 41 = some (.ifCond .eq 5, 3, 46, 0, 44) := rfl
theorem i_M_seqAt_44 : ins m_M_seqAt 44 = some (.iconst 0, 1, 0, 0, 45) := rfl
theorem i_M_seqAt_45 : ins m_M_seqAt 45 = some (.ireturn, 1, 0, 0, 46) := rfl
theorem i_M_seqAt_46 : ins m_M_seqAt 46 = some (.iload 9, 2, 0, 0, 48) := rfl
theorem i_M_seqAt_48 : ins m_M_seqAt 48 = some (.ifCond .ne 25, 3, 73, 0, 51) := rfl
theorem i_M_seqAt_51 : ins m_M_seqAt 51 = some (.aload_n 0, 1, 0, 0, 52) := rfl
theorem i_M_seqAt_52 : ins m_M_seqAt 52 = some (.iload 4, 2, 0, 0, 54) := rfl
theorem i_M_seqAt_54 : ins m_M_seqAt 54 = some (.ifCond .ne 10, 3, 64, 0, 57) := rfl
theorem i_M_seqAt_57 : ins m_M_seqAt 57 = some (.aload_n 0, 1, 0, 0, 58) := rfl
theorem i_M_seqAt_58 : ins m_M_seqAt 58 = some (.getfield 312, 3, 1152, 0, 61) := rfl
theorem i_M_seqAt_61 : ins m_M_seqAt 61 = some (.ifCond .eq 7, 3, 68, 0, 64) := rfl
theorem i_M_seqAt_64 : ins m_M_seqAt 64 = some (.iconst 1, 1, 0, 0, 65) := rfl
theorem i_M_seqAt_65 : ins m_M_seqAt 65 = some (.goto 4, 3, 69, 0, 68) := rfl
theorem i_M_seqAt_68 : ins m_M_seqAt 68 = some (.iconst 0, 1, 0, 0, 69) := rfl
theorem i_M_seqAt_69 : ins m_M_seqAt 69 = some (.invokevirtual 345, 3, 147, 1, 72) := rfl
theorem i_M_seqAt_72 : ins m_M_seqAt 72 = some (.ireturn, 1, 0, 0, 73) := rfl
theorem i_M_seqAt_73 : ins m_M_seqAt 73 = some (.aload_n 0, 1, 0, 0, 74) := rfl
theorem i_M_seqAt_74 : ins m_M_seqAt 74 = some (.getfield 315, 3, 1147, 0, 77) := rfl
theorem i_M_seqAt_77 : ins m_M_seqAt 77 = some (.istore_n 3, 1, 0, 0, 78) := rfl
theorem i_M_seqAt_78 : ins m_M_seqAt 78 = some (.iload 4, 2, 0, 0, 80) := rfl
theorem i_M_seqAt_80 : ins m_M_seqAt 80 = some (.aload_n 0, 1, 0, 0, 81) := rfl
theorem i_M_seqAt_81 : ins m_M_seqAt 81 = some (.getfield 312, 3, 1152, 0, 84) := rfl
theorem i_M_seqAt_84 : ins m_M_seqAt 84 = some (.ior, 1, 0, 0, 85) := rfl
theorem i_M_seqAt_85 : ins m_M_seqAt 85 = some (.istore 4, 2, 0, 0, 87) := rfl
theorem i_M_seqAt_87 : ins m_M_seqAt 87 = some (.aload_n 0, 1, 0, 0, 88) := rfl
theorem i_M_seqAt_88 : ins m_M_seqAt 88 = some (.getfield 318, 3, 1148, 0, 91) := rfl
theorem i_M_seqAt_91 : ins m_M_seqAt 91 = some (.istore 10, 2, 0, 0, 93) := rfl
theorem i_M_seqAt_93 : ins m_M_seqAt 93 = some (.aload_n 0, 1, 0, 0, 94) := rfl
theorem i_M_seqAt_94 : ins m_M_seqAt 94 = some (.getfield 34, 3, 1112, 0, 97) := rfl
theorem i_M_seqAt_97 : ins m_M_seqAt 97 = some (.iload 8, 2, 0, 0, 99) := rfl
theorem i_M_seqAt_99 : ins m_M_seqAt 99 = some (.iaload, 1, 0, 0, 100) := rfl
theorem i_M_seqAt_100 : ins m_M_seqAt 100 = some (.ifCond .ne 36, 3, 136, 0, 103) := rfl
theorem i_M_seqAt_103 : ins m_M_seqAt 103 = some (.aload_n 0, 1, 0, 0, 104) := rfl
theorem i_M_seqAt_104 : ins m_M_seqAt 104 = some (.getfield 40, 3, 1114, 0, 107) := rfl
theorem i_M_seqAt_107 : ins m_M_seqAt 107 = some (.aload_n 0, 1, 0, 0, 108) := rfl
theorem i_M_seqAt_108 : ins m_M_seqAt 108 = some (.getfield 31, 3, 1111, 0, 111) := rfl
theorem i_M_seqAt_111 : ins m_M_seqAt 111 = some (.iload 8, 2, 0, 0, 113) := rfl
theorem i_M_seqAt_113 : ins m_M_seqAt 113 = some (.iaload, 1, 0, 0, 114) := rfl
theorem i_M_seqAt_114 : ins m_M_seqAt 114 = some (.iaload, 1, 0, 0, 115) := rfl
theorem i_M_seqAt_115 : ins m_M_seqAt 115 = some (.ifCond .ne 21, 3, 136, 0, 118) := rfl
theorem i_M_seqAt_118 : ins m_M_seqAt 118 = some (.iload 5, 2, 0, 0, 120) := rfl
theorem i_M_seqAt_120 : ins m_M_seqAt 120 = some (.iconst (-1), 1, 0, 0, 121) := rfl
theorem i_M_seqAt_121 : ins m_M_seqAt 121 = some (.if_icmp .ne 8, 3, 129, 0, 124) := rfl
theorem i_M_seqAt_124 : ins m_M_seqAt 124 = some (.iload 10, 2, 0, 0, 126) := rfl
theorem i_M_seqAt_126 : ins m_M_seqAt 126 = some (.goto 5, 3, 131, 0, 129) := rfl
theorem i_M_seqAt_129 : ins m_M_seqAt 129 = some (.iload 5, 2, 0, 0, 131) := rfl
theorem i_M_seqAt_131 : ins m_M_seqAt 131 = some (.istore 5, 2, 0, 0, 133) := rfl
theorem i_M_seqAt_133 : ins m_M_seqAt 133 = some (.goto 58, 3, 191, 0, 136) := rfl
theorem i_M_seqAt_136 : ins m_M_seqAt 136 = some (.iload 10, 2, 0, 0, 138) := rfl
theorem i_M_seqAt_138 : ins m_M_seqAt 138 = some (.iconst (-1), 1, 0, 0, 139) := rfl
theorem i_M_seqAt_139 : ins m_M_seqAt 139 = some (.if_icmp .eq 16, 3, 155, 0, 142) := rfl
theorem i_M_seqAt_142 : ins m_M_seqAt 142 = some (.iload 7, 2, 0, 0, 144) := rfl
theorem i_M_seqAt_144 : ins m_M_seqAt 144 = some (.iconst (-1), 1, 0, 0, 145) := rfl
theorem i_M_seqAt_145 : ins m_M_seqAt 145 = some (.if_icmp .ne 10, 3, 155, 0, 148) := rfl
theorem i_M_seqAt_148 : ins m_M_seqAt 148 = some (.iload 10, 2, 0, 0, 150) := rfl
theorem i_M_seqAt_150 : ins m_M_seqAt 150 = some (.istore 7, 2, 0, 0, 152) := rfl
theorem i_M_seqAt_152 : ins m_M_seqAt 152 = some (.goto 39, 3, 191, 0, 155) := rfl
theorem i_M_seqAt_155 : ins m_M_seqAt 155 = some (.iload 10, 2, 0, 0, 157) := rfl
theorem i_M_seqAt_157 : ins m_M_seqAt 157 = some (.iconst (-1), 1, 0, 0, 158) := rfl
theorem i_M_seqAt_158 : ins m_M_seqAt 158 = some (.if_icmp .eq 33, 3, 191, 0, 161) := rfl
theorem i_M_seqAt_161 : ins m_M_seqAt 161 = some (.iload 6, 2, 0, 0, 163) := rfl
theorem i_M_seqAt_163 : ins m_M_seqAt 163 = some (.iconst (-1), 1, 0, 0, 164) := rfl
theorem i_M_seqAt_164 : ins m_M_seqAt 164 = some (.if_icmp .ne 19, 3, 183, 0, 167) := rfl
theorem i_M_seqAt_167 : ins m_M_seqAt 167 = some (.aload_n 0, 1, 0, 0, 168) := rfl
theorem i_M_seqAt_168 : ins m_M_seqAt 168 = some (.iconst 1, 1, 0, 0, 169) := rfl
theorem i_M_seqAt_169 : ins m_M_seqAt 169 = some (.iconst 0, 1, 0, 0, 170) := rfl
theorem i_M_seqAt_170 : ins m_M_seqAt 170 = some (.invokevirtual 334, 3, 142, 2, 173) := rfl
theorem i_M_seqAt_173 : ins m_M_seqAt 173 = some (.istore 6, 2, 0, 0, 175) := rfl
theorem i_M_seqAt_175 : ins m_M_seqAt 175 = some (.aload_n 0, 1, 0, 0, 176) := rfl
theorem i_M_seqAt_176 : ins m_M_seqAt 176 = some (.iload 6, 2, 0, 0, 178) := rfl
theorem i_M_seqAt_178 : ins m_M_seqAt 178 = some (.iload 7, 2, 0, 0, 180) := rfl
theorem i_M_seqAt_180 : ins m_M_seqAt 180 = some (.invokevirtual 378, 3, 143, 2, 183) := rfl
theorem i_M_seqAt_183 : ins m_M_seqAt 183 = some (.aload_n 0, 1, 0, 0, 184) := rfl
theorem i_M_seqAt_184 : ins m_M_seqAt 184 = some (.iload 6, 2, 0, 0, 186) := rfl
theorem i_M_seqAt_186 : ins m_M_seqAt 186 = some (.iload 10, 2, 0, 0, 188) := rfl
theorem i_M_seqAt_188 : ins m_M_seqAt 188 = some (.invokevirtual 378, 3, 143, 2, 191) := rfl
theorem i_M_seqAt_191 : ins m_M_seqAt 191 = some (.aload_n 0, 1, 0, 0, 192) := rfl
theorem i_M_seqAt_192 : ins m_M_seqAt 192 = some (.getfield 37, 3, 1113, 0, 195) := rfl
theorem i_M_seqAt_195 : ins m_M_seqAt 195 = some (.iload 8, 2, 0, 0, 197) := rfl
theorem i_M_seqAt_197 : ins m_M_seqAt 197 = some (.iaload, 1, 0, 0, 198) := rfl
theorem i_M_seqAt_198 : ins m_M_seqAt 198 = some (.istore 8, 2, 0, 0, 200) := rfl
theorem i_M_seqAt_200 : ins m_M_seqAt 200 = some (.goto (-178), 3, 22, 0, 203) := rfl
theorem i_M_seqAt_203 : ins m_M_seqAt 203 = some (.iload 6, 2, 0, 0, 205) := rfl
theorem i_M_seqAt_205 : ins m_M_seqAt 205 = some (.iconst (-1), 1, 0, 0, 206) := rfl
theorem i_M_seqAt_206 : ins m_M_seqAt 206 = some (.if_icmp .eq 12, 3, 218, 0, 209) := rfl
theorem i_M_seqAt_209 : ins m_M_seqAt 209 = some (.aload_n 0, 1, 0, 0, 210) := rfl
theorem i_M_seqAt_210 : ins m_M_seqAt 210 = some (.iload 6, 2, 0, 0, 212) := rfl
theorem i_M_seqAt_212 : ins m_M_seqAt 212 = some (.invokevirtual 382, 3, 144, 1, 215) := rfl
theorem i_M_seqAt_215 : ins m_M_seqAt 215 = some (.goto 16, 3, 231, 0, 218) := rfl
theorem i_M_seqAt_218 : ins m_M_seqAt 218 = some (.iload 7, 2, 0, 0, 220) := rfl
theorem i_M_seqAt_220 : ins m_M_seqAt 220 = some (.iconst (-1), 1, 0, 0, 221) := rfl
theorem i_M_seqAt_221 : ins m_M_seqAt 221 = some (.if_icmp .eq 8, 3, 229, 0, 224) := rfl
theorem i_M_seqAt_224 : ins m_M_seqAt 224 = some (.iload 7, 2, 0, 0, 226) := rfl
theorem i_M_seqAt_226 : ins m_M_seqAt 226 = some (.goto 5, 3, 231, 0, 229) := rfl
theorem i_M_seqAt_229 : ins m_M_seqAt 229 = some (.iload 5, 2, 0, 0, 231) := rfl
theorem i_M_seqAt_231 : ins m_M_seqAt 231 = some (.istore 8, 2, 0, 0, 233) := rfl
theorem i_M_seqAt_233 : ins m_M_seqAt 233 = some (.aload_n 0, 1, 0, 0, 234) := rfl
theorem i_M_seqAt_234 : ins m_M_seqAt 234 = some (.getfield 306, 3, 1142, 0, 237) := rfl
theorem i_M_seqAt_237 : ins m_M_seqAt 237 = some (.ifCond .ne 19, 3, 256, 0, 240) := rfl
theorem i_M_seqAt_240 : ins m_M_seqAt 240 = some (.aload_n 0, 1, 0, 0, 241) := rfl
theorem i_M_seqAt_241 : ins m_M_seqAt 241 = some (.iload_n 3, 1, 0, 0, 242) := rfl
theorem i_M_seqAt_242 : ins m_M_seqAt 242 = some (.iload 8, 2, 0, 0, 244) := rfl
theorem i_M_seqAt_244 : ins m_M_seqAt 244 = some (.iload 4, 2, 0, 0, 246) := rfl
theorem i_M_seqAt_246 : ins m_M_seqAt 246 = some (.invokevirtual 337, 3, 148, 3, 249) := rfl
theorem i_M_seqAt_249 : ins m_M_seqAt 249 = some (.ifCond .eq 7, 3, 256, 0, 252) := rfl
theorem i_M_seqAt_252 : ins m_M_seqAt 252 = some (.iconst 1, 1, 0, 0, 253) := rfl
theorem i_M_seqAt_253 : ins m_M_seqAt 253 = some (.goto 4, 3, 257, 0, 256) := rfl
theorem i_M_seqAt_256 : ins m_M_seqAt 256 = some (.iconst 0, 1, 0, 0, 257) := rfl
theorem i_M_seqAt_257 : ins m_M_seqAt 257 = some (.ireturn, 1, 0, 0, 258) := rfl
theorem i_M_itemAt_0 : ins m_M_itemAt 0 = some (.aload_n 0, 1, 0, 0, 1) := rfl
theorem i_M_itemAt_1 : ins m_M_itemAt 1 = some (.getfield 31, 3, 1111, 0, 4) := rfl
theorem i_M_itemAt_4 : ins m_M_itemAt 4 = some (.iload_n 1, 1, 0, 0, 5) := rfl
theorem i_M_itemAt_5 : ins m_M_itemAt 5 = some (.iaload, 1, 0, 0, 6) := rfl
theorem i_M_itemAt_6 : ins m_M_itemAt 6 = some (.istore_n 3, 1, 0, 0, 7) := rfl
theorem i_M_itemAt_7 : ins m_M_itemAt 7 = some (.aload_n 0, 1, 0, 0, 8) := rfl
theorem i_M_itemAt_8 : ins m_M_itemAt 8 = some (.getfield 34, 3, 1112, 0, 11) := rfl
theorem i_M_itemAt_11 : ins m_M_itemAt 11 = some (.iload_n 1, 1, 0, 0, 12) := rfl
theorem i_M_itemAt_12 : ins m_M_itemAt 12 = some (.iaload, 1, 0, 0, 13) := rfl
theorem i_M_itemAt_13 : ins m_M_itemAt 13 = some (.istore 4, 2, 0, 0, 15) := rfl
theorem i_M_itemAt_15 : ins m_M_itemAt 15 = some (.iload 4, 2, 0, 0, 17) := rfl
theorem i_M_itemAt_17 : ins m_M_itemAt 17 = some (.ifCond .ne 10, 3, 27, 0, 20) := rfl
theorem i_M_itemAt_20 : ins m_M_itemAt 20 = some (.aload_n 0, 1, 0, 0, 21) := rfl
theorem i_M_itemAt_21 : ins m_M_itemAt 21 = some (.iload_n 3, 1, 0, 0, 22) := rfl
theorem i_M_itemAt_22 : ins m_M_itemAt 22 = some (.iload_n 2, 1, 0, 0, 23) := rfl
theorem i_M_itemAt_23 : ins m_M_itemAt 23 = some (.invokevirtual 385, 3, 149, 2, 26) := rfl
theorem i_M_itemAt_26 : ins m_M_itemAt 26 = some (.ireturn, 1, 0, 0, 27) := rfl
theorem i_M_itemAt_27 : ins m_M_itemAt 27 = some (.iload 4, 2, 0, 0, 29) := rfl
theorem i_M_itemAt_29 : ins m_M_itemAt 29 = some (.bipush 63, 2, 0, 0, 31) := rfl
theorem i_M_itemAt_31 : ins m_M_itemAt 31 = some (.if_icmp .ne 53, 3, 84, 0, 34) := rfl
theorem i_M_itemAt_34 : ins m_M_itemAt 34 = some (.aload_n 0, 1, 0, 0, 35) := rfl
theorem i_M_itemAt_35 : ins m_M_itemAt 35 = some (.iload_n 3, 1, 0, 0, 36) := rfl
theorem i_M_itemAt_36 : ins m_M_itemAt 36 = some (.iload_n 2, 1, 0, 0, 37) := rfl
theorem i_M_itemAt_37 : ins m_M_itemAt 37 = some (.invokevirtual 385, 3, 149, 2, 40) := rfl
theorem i_M_itemAt_40 : ins m_M_itemAt 40 = some (.istore 5, 2, 0, 0, 42) := rfl
theorem i_M_itemAt_42 : ins m_M_itemAt 42 = some (.aload_n 0, 1, 0, 0, 43) := rfl
theorem i_M_itemAt_43 : ins m_M_itemAt 43 = some (.getfield 306, 3, 1142, 0, 46) := rfl
theorem i_M_itemAt_46 : ins m_M_itemAt 46 = some (.ifCond .eq 5, 3, 51, 0, 49) := rfl
theorem i_M_itemAt_49 : ins m_M_itemAt 49 = some (.iconst 0, 1, 0, 0, 50) := rfl
theorem i_M_itemAt_50 : ins m_M_itemAt 50 = some (.ireturn, 1, 0, 0, 51) := rfl
theorem i_M_itemAt_51 : ins m_M_itemAt 51 = some (.iload 5, 2, 0, 0, 53) := rfl
theorem i_M_itemAt_53 : ins m_M_itemAt 53 = some (.ifCond .ne 25, 3, 78, 0, 56) := rfl
theorem i_M_itemAt_56 : ins m_M_itemAt 56 = some (.aload_n 0, 1, 0, 0, 57) := rfl
theorem i_M_itemAt_57 : ins m_M_itemAt 57 = some (.getfield 312, 3, 1152, 0, 60) := rfl
theorem i_M_itemAt_60 : ins m_M_itemAt 60 = some (.ifCond .ne 22, 3, 82, 0, 63) := rfl
theorem i_M_itemAt_63 : ins m_M_itemAt 63 = some (.aload_n 0, 1, 0, 0, 64) := rfl
theorem i_M_itemAt_64 : ins m_M_itemAt 64 = some (.iload_n 2, 1, 0, 0, 65) := rfl
theorem i_M_itemAt_65 : ins m_M_itemAt 65 = some (.aload_n 0, 1, 0, 0, 66) := rfl
theorem i_M_itemAt_66 : ins m_M_itemAt 66 = some (.iconst 1, 1, 0, 0, 67) := rfl
theorem i_M_itemAt_67 : ins m_M_itemAt 67 = some (.iconst 0, 1, 0, 0, 68) := rfl
theorem i_M_itemAt_68 : ins m_M_itemAt 68 = some (.invokevirtual 334, 3, 142, 2, 71) := rfl
theorem i_M_itemAt_71 : ins m_M_itemAt 71 = some (.iconst 0, 1, 0, 0, 72) := rfl
theorem i_M_itemAt_72 : ins m_M_itemAt 72 = some (.invokevirtual 337, 3, 148, 3, 75) := rfl
theorem i_M_itemAt_75 : ins m_M_itemAt 75 = some (.ifCond .eq 7, 3, 82, 0, 78) := rfl
theorem i_M_itemAt_78 : ins m_M_itemAt 78 = some (.iconst 1, 1, 0, 0, 79) := rfl
theorem i_M_itemAt_79 : ins m_M_itemAt 79 = some (.goto 4, 3, 83, 0, 82) := rfl
theorem i_M_itemAt_82 : ins m_M_itemAt 82 = some (.iconst 0, 1, 0, 0, 83) := rfl
theorem i_M_itemAt_83 : ins m_M_itemAt 83 = some (.ireturn, 1, 0, 0, 84) := rfl
theorem i_M_itemAt_84 : ins m_M_itemAt 84 = some (.aload_n 0, 1, 0, 0, 85) := rfl
theorem i_M_itemAt_85 : ins m_M_itemAt 85 = some (.iconst 1, 1, 0, 0, 86) := rfl
theorem i_M_itemAt_86 : ins m_M_itemAt 86 = some (.iconst 0, 1, 0, 0, 87) := rfl
theorem i_M_itemAt_87 : ins m_M_itemAt 87 = some (.invokevirtual 334, 3, 142, 2, 90) := rfl
theorem i_M_itemAt_90 : ins m_M_itemAt 90 = some (.istore 5, 2, 0, 0, 92) := rfl
theorem i_M_itemAt_92 : ins m_M_itemAt 92 = some (.iload_n 2, 1, 0, 0, 93) := rfl
theorem i_M_itemAt_93 : ins m_M_itemAt 93 = some (.istore 6, 2, 0, 0, 95) := rfl
theorem i_M_itemAt_95 : ins m_M_itemAt 95 = some (.iconst 0, 1, 0, 0, 96) := rfl
theorem i_M_itemAt_96 : ins m_M_itemAt 96 = some (.istore 7, 2, 0, 0, 98) := rfl
theorem i_M_itemAt_98 : ins m_M_itemAt 98 = some (.iconst 1, 1, 0, 0, 99) := rfl
theorem i_M_itemAt_99 : ins m_M_itemAt 99 = some (.istore 8, 2, 0, 0, 101) := rfl
theorem i_M_itemAt_101 : ins m_M_itemAt 101 = some (.aload_n 0, 1, 0, 0, 102) := rfl
theorem i_M_itemAt_102 : ins m_M_itemAt 102 = some (.iload_n 3, 1, 0, 0, 103) := rfl
theorem i_M_itemAt_103 : ins m_M_itemAt 103 = some (.iload 6, 2, 0, 0, 105) := rfl
theorem i_M_itemAt_105 : ins m_M_itemAt 105 = some (.invokevirtual 385, 3, 149, 2, 108) := rfl
theorem i_M_itemAt_108 : ins m_M_itemAt 108 = some (.istore 9, 2, 0, 0, 110) := rfl
theorem i_M_itemAt_110 : ins m_M_itemAt 110 = some (.aload_n 0, 1, 0, 0, 111) := rfl
theorem i_M_itemAt_111 : ins m_M_itemAt 111 = some (.getfield 306, 3, 1142, 0, 114) := rfl
theorem i_M_itemAt_114 : ins m_M_itemAt 114 = some (.ifCond .eq 5, 3, 119, 0, 117) := rfl
theorem i_M_itemAt_117 : ins m_M_itemAt 117 = some (.iconst 0, 1, 0, 0, 118) := rfl
theorem i_M_itemAt_118 : ins m_M_itemAt 118 = some (.ireturn, 1, 0, 0, 119) := rfl
theorem i_M_itemAt_119 : ins m_M_itemAt 119 = some (.iload 9, 2, 0, 0, 121) := rfl
theorem i_M_itemAt_121 : ins m_M_itemAt 121 = some (.ifCond .ne 57, 3, 178, 0, 124) := rfl
theorem i_M_itemAt_124 : ins m_M_itemAt 124 = some (.aload_n 0, 1, 0, 0, 125) := rfl
theorem i_M_itemAt_125 : ins m_M_itemAt 125 = some (.getfield 312, 3, 1152, 0, 128) := rfl
theorem i_M_itemAt_128 : ins m_M_itemAt 128 = some (.ifCond .ne 15, 3, 143, 0, 131) := rfl
theorem i_M_itemAt_131 : ins m_M_itemAt 131 = some (.iload 4, 2, 0, 0, 133) := rfl
theorem i_M_itemAt_133 : ins m_M_itemAt 133 = some (.bipush 43, 2, 0, 0, 135) := rfl
theorem i_M_itemAt_135 : ins m_M_itemAt 135 = some (.if_icmp .ne 10, 3, 145, 0, 138) := rfl
theorem i_M_itemAt_138 : ins m_M_itemAt 138 = some (.iload 8, 2, 0, 0, 140) := rfl
theorem i_M_itemAt_140 : ins m_M_itemAt 140 = some (.ifCond .eq 5, 3, 145, 0, 143) := rfl
theorem i_M_itemAt_143 : ins m_M_itemAt 143 = some (.iconst 0, 1, 0, 0, 144) := rfl
theorem i_M_itemAt_144 : ins m_M_itemAt 144 = some (.ireturn, 1, 0, 0, 145) := rfl
theorem i_M_itemAt_145 : ins m_M_itemAt 145 = some (.aload_n 0, 1, 0, 0, 146) := rfl
theorem i_M_itemAt_146 : ins m_M_itemAt 146 = some (.iload 5, 2, 0, 0, 148) := rfl
theorem i_M_itemAt_148 : ins m_M_itemAt 148 = some (.invokevirtual 382, 3, 144, 1, 151) := rfl
theorem i_M_itemAt_151 : ins m_M_itemAt 151 = some (.pop, 1, 0, 0, 152) := rfl
theorem i_M_itemAt_152 : ins m_M_itemAt 152 = some (.aload_n 0, 1, 0, 0, 153) := rfl
theorem i_M_itemAt_153 : ins m_M_itemAt 153 = some (.getfield 306, 3, 1142, 0, 156) := rfl
theorem i_M_itemAt_156 : ins m_M_itemAt 156 = some (.ifCond .ne 20, 3, 176, 0, 159) := rfl
theorem i_M_itemAt_159 : ins m_M_itemAt 159 = some (.aload_n 0, 1, 0, 0, 160) := rfl
theorem i_M_itemAt_160 : ins m_M_itemAt 160 = some (.iload 6, 2, 0, 0, 162) := rfl
theorem i_M_itemAt_162 : ins m_M_itemAt 162 = some (.iload 5, 2, 0, 0, 164) := rfl
theorem i_M_itemAt_164 : ins m_M_itemAt 164 = some (.iload 7, 2, 0, 0, 166) := rfl
theorem i_M_itemAt_166 : ins m_M_itemAt 166 = some (.invokevirtual 337, 3, 148, 3, 169) := rfl
theorem i_M_itemAt_169 : ins m_M_itemAt 169 = some (.ifCond .eq 7, 3, 176, 0, 172) := rfl
theorem i_M_itemAt_172 : ins m_M_itemAt 172 = some (.iconst 1, 1, 0, 0, 173) := rfl
theorem i_M_itemAt_173 : ins m_M_itemAt 173 = some (.goto 4, 3, 177, 0, 176) := rfl
theorem i_M_itemAt_176 : ins m_M_itemAt 176 = some (.iconst 0, 1, 0, 0, 177) := rfl
theorem i_M_itemAt_177 : ins m_M_itemAt 177 = some (.ireturn, 1, 0, 0, 178) := rfl
theorem i_M_itemAt_178 : ins m_M_itemAt 178 = some (.aload_n 0, 1, 0, 0, 179) := rfl
theorem i_M_itemAt_179 : ins m_M_itemAt 179 = some (.getfield 315, 3, 1147, 0, 182) := rfl
theorem i_M_itemAt_182 : ins m_M_itemAt 182 = some (.iload 6, 2, 0, 0, 184) := rfl
theorem i_M_itemAt_184 : ins m_M_itemAt 184 = some (.if_icmp .ne 11, 3, 195, 0, 187) := rfl
theorem i_M_itemAt_187 : ins m_M_itemAt 187 = some (.aload_n 0, 1, 0, 0, 188) := rfl
theorem i_M_itemAt_188 : ins m_M_itemAt 188 = some (.bipush (-15), 2, 0, 0, 190) := rfl
theorem i_M_itemAt_190 : ins m_M_itemAt 190 = some (.putfield 306, 3, 1142, 0, 193) := rfl
theorem i_M_itemAt_193 : ins m_M_itemAt 193 = some (.iconst 0, 1, 0, 0, 194) := rfl
theorem i_M_itemAt_194 : ins m_M_itemAt 194 = some (.ireturn, 1, 0, 0, 195) := rfl
theorem i_M_itemAt_195 : ins m_M_itemAt 195 = some (.aload_n 0, 1, 0, 0, 196) := rfl
theorem i_M_itemAt_196 : ins m_M_itemAt 196 = some (.getfield 315, 3, 1147, 0, 199) := rfl
theorem i_M_itemAt_199 : ins m_M_itemAt 199 = some (.istore 6, 2, 0, 0, 201) := rfl
theorem i_M_itemAt_201 : ins m_M_itemAt 201 = some (.iload 7, 2, 0, 0, 203) := rfl
theorem i_M_itemAt_203 : ins m_M_itemAt 203 = some (.aload_n 0, 1, 0, 0, 204) := rfl
theorem i_M_itemAt_204 : ins m_M_itemAt 204 = some (.getfield 312, 3, 1152, 0, 207) := rfl
theorem i_M_itemAt_207 : ins m_M_itemAt 207 = some (.ior, 1, 0, 0, 208) := rfl
theorem i_M_itemAt_208 : ins m_M_itemAt 208 = some (.istore 7, 2, 0, 0, 210) := rfl
theorem i_M_itemAt_210 : ins m_M_itemAt 210 = some (.iconst 0, 1, 0, 0, 211) := rfl
theorem i_M_itemAt_211 : ins m_M_itemAt 211 = some (.istore 8, 2, 0, 0, 213) := rfl
theorem i_M_itemAt_213 : ins m_M_itemAt 213 = some (.aload_n 0, 1, 0, 0, 214) := rfl
theorem i_M_itemAt_214 : ins m_M_itemAt 214 = some (.getfield 318, 3, 1148, 0, 217) := rfl
theorem i_M_itemAt_217 : ins m_M_itemAt 217 = some (.iconst (-1), 1, 0, 0, 218) := rfl
theorem i_M_itemAt_218 : ins m_M_itemAt 218 = some (.if_icmp .eq 13, 3, 231, 0, 221) := rfl
theorem i_M_itemAt_221 : ins m_M_itemAt 221 = some (.aload_n 0, 1, 0, 0, 222) := rfl
theorem i_M_itemAt_222 : ins m_M_itemAt 222 = some (.iload 5, 2, 0, 0, 224) := rfl
theorem i_M_itemAt_224 : ins m_M_itemAt 224 = some (.aload_n 0, 1, 0, 0, 225) := rfl
theorem i_M_itemAt_225 : ins m_M_itemAt 225 = some (.getfield 318, 3, 1148, 0, 228) := rfl
theorem i_M_itemAt_228 : ins m_M_itemAt 228 = some (.invokevirtual 378, 3, 143, 2, 231) := rfl
theorem i_M_itemAt_231 : ins m_M_itemAt 231 = some (.goto (-130), 3, 101, 0, 234) := rfl
theorem i_M_orEmpty_0 : ins m_M_orEmpty 0 = some (.iload_n 1, 1, 0, 0, 1) := rfl
theorem i_M_orEmpty_1 : ins m_M_orEmpty 1 = some (.iconst (-1), 1, 0, 0, 2) := rfl
theorem i_M_orEmpty_2 : ins m_M_orEmpty 2 = some (.if_icmp .ne 12, 3, 14, 0, 5) := rfl
theorem i_M_orEmpty_5 : ins m_M_orEmpty 5 = some (.aload_n 0, 1, 0, 0, 6) := rfl
theorem i_M_orEmpty_6 : ins m_M_orEmpty 6 = some (.iconst 1, 1, 0, 0, 7) := rfl
theorem i_M_orEmpty_7 : ins m_M_orEmpty 7 = some (.iconst 0, 1, 0, 0, 8) := rfl
theorem i_M_orEmpty_8 : ins m_M_orEmpty 8 = some (.invokevirtual 334, 3, 142, 2, 11) := rfl
theorem i_M_orEmpty_11 : ins m_M_orEmpty 11 = some (.goto 4, 3, 15, 0, 14) := rfl
theorem i_M_orEmpty_14 : ins m_M_orEmpty 14 = some (.iload_n 1, 1, 0, 0, 15) := rfl
theorem i_M_orEmpty_15 : ins m_M_orEmpty 15 = some (.ireturn, 1, 0, 0, 16) := rfl
theorem i_M_chain_0 : ins m_M_chain 0 = some (.aload_n 0, 1, 0, 0, 1) := rfl
theorem i_M_chain_1 : ins m_M_chain 1 = some (.iload_n 1, 1, 0, 0, 2) := rfl
theorem i_M_chain_2 : ins m_M_chain 2 = some (.iload_n 3, 1, 0, 0, 3) := rfl
theorem i_M_chain_3 : ins m_M_chain 3 = some (.invokevirtual 359, 3, 153, 2, 6) := rfl
theorem i_M_chain_6 : ins m_M_chain 6 = some (.istore 4, 2, 0, 0, 8) := rfl
theorem i_M_chain_8 : ins m_M_chain 8 = some (.aload_n 0, 1, 0, 0, 9) := rfl
theorem i_M_chain_9 : ins m_M_chain 9 = some (.getfield 306, 3, 1142, 0, 12) := rfl
theorem i_M_chain_12 : ins m_M_chain 12 = some (.ifCond .ne 8, 3, 20, 0, 15) := rfl
theorem i_M_chain_15 : ins m_M_chain 15 = some (.iload 4, 2, 0, 0, 17) := rfl
theorem i_M_chain_17 : ins m_M_chain 17 = some (.ifCond .ne 5, 3, 22, 0, 20) := rfl
theorem i_M_chain_20 : ins m_M_chain 20 = some (.iconst 0, 1, 0, 0, 21) := rfl
theorem i_M_chain_21 : ins m_M_chain 21 = some (.ireturn, 1, 0, 0, 22) := rfl
theorem i_M_chain_22 : ins m_M_chain 22 = some (.aload_n 0, 1, 0, 0, 23) := rfl
theorem i_M_chain_23 : ins m_M_chain 23 = some (.getfield 315, 3, 1147, 0, 26) := rfl
theorem i_M_chain_26 : ins m_M_chain 26 = some (.istore 5, 2, 0, 0, 28) := rfl
theorem i_M_chain_28 : ins m_M_chain 28 = some (.aload_n 0, 1, 0, 0, 29) := rfl
theorem i_M_chain_29 : ins m_M_chain 29 = some (.getfield 318, 3, 1148, 0, 32) := rfl
theorem i_M_chain_32 : ins m_M_chain 32 = some (.istore 6, 2, 0, 0, 34) := rfl
theorem i_M_chain_34 : ins m_M_chain 34 = some (.aload_n 0, 1, 0, 0, 35) := rfl
theorem i_M_chain_35 : ins m_M_chain 35 = some (.getfield 312, 3, 1152, 0, 38) := rfl
theorem i_M_chain_38 : ins m_M_chain 38 = some (.istore 7, 2, 0, 0, 40) := rfl
theorem i_M_chain_40 : ins m_M_chain 40 = some (.aload_n 0, 1, 0, 0, 41) := rfl
theorem i_M_chain_41 : ins m_M_chain 41 = some (.iload_n 2, 1, 0, 0, 42) := rfl
theorem i_M_chain_42 : ins m_M_chain 42 = some (.iload 5, 2, 0, 0, 44) := rfl
theorem i_M_chain_44 : ins m_M_chain 44 = some (.invokevirtual 359, 3, 153, 2, 47) := rfl
theorem i_M_chain_47 : ins m_M_chain 47 = some (.istore 4, 2, 0, 0, 49) := rfl
theorem i_M_chain_49 : ins m_M_chain 49 = some (.aload_n 0, 1, 0, 0, 50) := rfl
theorem i_M_chain_50 : ins m_M_chain 50 = some (.getfield 306, 3, 1142, 0, 53) := rfl
theorem i_M_chain_53 : ins m_M_chain 53 = some (.ifCond .eq 5, 3, 58, 0, 56) := rfl
theorem i_M_chain_56 : ins m_M_chain 56 = some (.iconst 0, 1, 0, 0, 57) := rfl
theorem i_M_chain_57 : ins m_M_chain 57 = some (.ireturn, 1, 0, 0, 58) := rfl
theorem i_M_chain_58 : ins m_M_chain 58 = some (.iload 4, 2, 0, 0, 60) := rfl
theorem i_M_chain_60 : ins m_M_chain 60 = some (.ifCond .ne 29, 3, 89, 0, 63) := rfl
theorem i_M_chain_63 : ins m_M_chain 63 = some (.aload_n 0, 1, 0, 0, 64) := rfl
theorem i_M_chain_64 : ins m_M_chain 64 = some (.getfield 312, 3, 1152, 0, 67) := rfl
theorem i_M_chain_67 : ins m_M_chain 67 = some (.ifCond .eq 11, 3, 78, 0, 70) := rfl
theorem i_M_chain_70 : ins m_M_chain 70 = some (.aload_n 0, 1, 0, 0, 71) := rfl
theorem i_M_chain_71 : ins m_M_chain 71 = some (.iconst 1, 1, 0, 0, 72) := rfl
theorem i_M_chain_72 : ins m_M_chain 72 = some (.invokevirtual 345, 3, 147, 1, 75) := rfl
theorem i_M_chain_75 : ins m_M_chain 75 = some (.goto 13, 3, 88, 0, 78) := rfl
theorem i_M_chain_78 : ins m_M_chain 78 = some (.aload_n 0, 1, 0, 0, 79) := rfl
theorem i_M_chain_79 : ins m_M_chain 79 = some (.iload 5, 2, 0, 0, 81) := rfl
theorem i_M_chain_81 : ins m_M_chain 81 = some (.iload 6, 2, 0, 0, 83) := rfl
theorem i_M_chain_83 : ins m_M_chain 83 = some (.iload 7, 2, 0, 0, 85) := rfl
theorem i_M_chain_85 : ins m_M_chain 85 = some (.invokevirtual 337, 3, 148, 3, 88) := rfl
theorem i_M_chain_88 : ins m_M_chain 88 = some (.ireturn, 1, 0, 0, 89) := rfl
theorem i_M_chain_89 : ins m_M_chain 89 = some (.aload_n 0, 1, 0, 0, 90) := rfl
theorem i_M_chain_90 : ins m_M_chain 90 = some (.getfield 318, 3, 1148, 0, 93) := rfl
theorem i_M_chain_93 : ins m_M_chain 93 = some (.istore 8, 2, 0, 0, 95) := rfl
theorem i_M_chain_95 : ins m_M_chain 95 = some (.aload_n 0, 1, 0, 0, 96) := rfl
theorem i_M_chain_96 : ins m_M_chain 96 = some (.getfield 312, 3, 1152, 0, 99) := rfl
theorem i_M_chain_99 : ins m_M_chain 99 = some (.istore 9, 2, 0, 0, 101) := rfl
theorem i_M_chain_101 : ins m_M_chain 101 = some (.aload_n 0, 1, 0, 0, 102) := rfl
theorem i_M_chain_102 : ins m_M_chain 102 = some (.iload_n 1, 1, 0, 0, 103) := rfl
theorem i_M_chain_103 : ins m_M_chain 103 = some (.aload_n 0, 1, 0, 0, 104) := rfl
theorem i_M_chain_104 : ins m_M_chain 104 = some (.getfield 315, 3, 1147, 0, 107) := rfl
theorem i_M_chain_107 : ins m_M_chain 107 = some (.invokevirtual 359, 3, 153, 2, 110) := rfl
theorem i_M_chain_110 : ins m_M_chain 110 = some (.istore 4, 2, 0, 0, 112) := rfl
theorem i_M_chain_112 : ins m_M_chain 112 = some (.aload_n 0, 1, 0, 0, 113) := rfl
theorem i_M_chain_113 : ins m_M_chain 113 = some (.getfield 306, 3, 1142, 0, 116) := rfl
theorem i_M_chain_116 : ins m_M_chain 116 = some (.ifCond .eq 5, 3, 121, 0, 119) := rfl
theorem i_M_chain_119 : ins m_M_chain 119 = some (.iconst 0, 1, 0, 0, 120) := rfl
theorem i_M_chain_120 : ins m_M_chain 120 = some (.ireturn, 1, 0, 0, 121) := rfl
theorem i_M_chain_121 : ins m_M_chain 121 = some (.iload 4, 2, 0, 0, 123) := rfl
theorem i_M_chain_123 : ins m_M_chain 123 = some (.ifCond .ne 34, 3, 157, 0, 126) := rfl
theorem i_M_chain_126 : ins m_M_chain 126 = some (.aload_n 0, 1, 0, 0, 127) := rfl
theorem i_M_chain_127 : ins m_M_chain 127 = some (.getfield 312, 3, 1152, 0, 130) := rfl
theorem i_M_chain_130 : ins m_M_chain 130 = some (.ifCond .ne 8, 3, 138, 0, 133) := rfl
theorem i_M_chain_133 : ins m_M_chain 133 = some (.iload 9, 2, 0, 0, 135) := rfl
theorem i_M_chain_135 : ins m_M_chain 135 = some (.ifCond .eq 11, 3, 146, 0, 138) := rfl
theorem i_M_chain_138 : ins m_M_chain 138 = some (.aload_n 0, 1, 0, 0, 139) := rfl
theorem i_M_chain_139 : ins m_M_chain 139 = some (.iconst 1, 1, 0, 0, 140) := rfl
theorem i_M_chain_140 : ins m_M_chain 140 = some (.invokevirtual 345, 3, 147, 1, 143) := rfl
theorem i_M_chain_143 : ins m_M_chain 143 = some (.goto 13, 3, 156, 0, 146) := rfl
theorem i_M_chain_146 : ins m_M_chain 146 = some (.aload_n 0, 1, 0, 0, 147) := rfl
theorem i_M_chain_147 : ins m_M_chain 147 = some (.iload 5, 2, 0, 0, 149) := rfl
theorem i_M_chain_149 : ins m_M_chain 149 = some (.iload 6, 2, 0, 0, 151) := rfl
theorem i_M_chain_151 : ins m_M_chain 151 = some (.iload 7, 2, 0, 0, 153) := rfl
theorem i_M_chain_153 : ins m_M_chain 153 = some (.invokevirtual 337, 3, 148, 3, 156) := rfl
theorem i_M_chain_156 : ins m_M_chain 156 = some (.ireturn, 1, 0, 0, 157) := rfl
theorem i_M_chain_157 : ins m_M_chain 157 = some (.aload_n 0, 1, 0, 0, 158) := rfl
theorem i_M_chain_158 : ins m_M_chain 158 = some (.getfield 315, 3, 1147, 0, 161) := rfl
theorem i_M_chain_161 : ins m_M_chain 161 = some (.iload 5, 2, 0, 0, 163) := rfl
theorem i_M_chain_163 : ins m_M_chain 163 = some (.if_icmp .ne 11, 3, 174, 0, 166) := rfl
theorem i_M_chain_166 : ins m_M_chain 166 = some (.aload_n 0, 1, 0, 0, 167) := rfl
theorem i_M_chain_167 : ins m_M_chain 167 = some (.bipush (-15), 2, 0, 0, 169) := rfl
theorem i_M_chain_169 : ins m_M_chain 169 = some (.putfield 306, 3, 1142, 0, 172) := rfl
theorem i_M_chain_172 : ins m_M_chain 172 = some (.iconst 0, 1, 0, 0, 173) := rfl
theorem i_M_chain_173 : ins m_M_chain 173 = some (.ireturn, 1, 0, 0, 174) := rfl
theorem i_M_chain_174 : ins m_M_chain 174 = some (.aload_n 0, 1, 0, 0, 175) := rfl
theorem i_M_chain_175 : ins m_M_chain 175 = some (.getfield 315, 3, 1147, 0, 178) := rfl
theorem i_M_chain_178 : ins m_M_chain 178 = some (.istore 5, 2, 0, 0, 180) := rfl
theorem i_M_chain_180 : ins m_M_chain 180 = some (.iload 7, 2, 0, 0, 182) := rfl
theorem i_M_chain_182 : ins m_M_chain 182 = some (.iload 9, 2, 0, 0, 184) := rfl
theorem i_M_chain_184 : ins m_M_chain 184 = some (.ifCond .ne 10, 3, 194, 0, 187) := rfl
theorem i_M_chain_187 : ins m_M_chain 187 = some (.aload_n 0, 1, 0, 0, 188) := rfl
theorem i_M_chain_188 : ins m_M_chain 188 = some (.getfield 312, 3, 1152, 0, 191) := rfl
theorem i_M_chain_191 : ins m_M_chain 191 = some (.ifCond .eq 7, 3, 198, 0, 194) := rfl
theorem i_M_chain_194 : ins m_M_chain 194 = some (.iconst 1, 1, 0, 0, 195) := rfl
theorem i_M_chain_195 : ins m_M_chain 195 = some (.goto 4, 3, 199, 0, 198) := rfl
theorem i_M_chain_198 : ins m_M_chain 198 = some (.iconst 0, 1, 0, 0, 199) := rfl
theorem i_M_chain_199 : ins m_M_chain 199 = some (.ior, 1, 0, 0, 200) := rfl
theorem i_M_chain_200 : ins m_M_chain 200 = some (.istore 7, 2, 0, 0, 202) := rfl
theorem i_M_chain_202 : ins m_M_chain 202 = some (.aload_n 0, 1, 0, 0, 203) := rfl
theorem i_M_chain_203 : ins m_M_chain 203 = some (.getfield 318, 3, 1148, 0, 206) := rfl
theorem i_M_chain_206 : ins m_M_chain 206 = some (.istore 10, 2, 0, 0, 208) := rfl
theorem i_M_chain_208 : ins m_M_chain 208 = some (.aload_n 0, 1, 0, 0, 209) := rfl
theorem i_M_chain_209 : ins m_M_chain 209 = some (.iconst 2, 1, 0, 0, 210) := rfl
theorem i_M_chain_210 : ins m_M_chain 210 = some (.iload 8, 2, 0, 0, 212) := rfl
theorem i_M_chain_212 : ins m_M_chain 212 = some (.iconst (-1), 1, 0, 0, 213) := rfl
theorem i_M_chain_213 : ins m_M_chain 213 = some (.if_icmp .eq 23, 3, 236, 0, 216) := rfl
theorem i_M_chain_216 : ins m_M_chain 216 = some (.aload_n 0, 1, 0, 0, 217) := rfl
theorem i_M_chain_217 : ins m_M_chain 217 = some (.getfield 110, 3, 1162, 0, 220) := rfl
theorem i_M_chain_220 : ins m_M_chain 220 = some (.iload 8, 2, 0, 0, 222) := rfl
theorem i_M_chain_222 : ins m_M_chain 222 = some (.iaload, 1, 0, 0, 223) := rfl
theorem i_M_chain_223 : ins m_M_chain 223 = some (.ifCond .ne 13, 3, 236, 0, 226) := rfl
theorem i_M_chain_226 : ins m_M_chain 226 = some (.aload_n 0, 1, 0, 0, 227) := rfl
theorem i_M_chain_227 : ins m_M_chain 227 = some (.getfield 113, 3, 1163, 0, 230) := rfl
theorem i_M_chain_230 : ins m_M_chain 230 = some (.iload 8, 2, 0, 0, 232) := rfl
theorem i_M_chain_232 : ins m_M_chain 232 = some (.iaload, 1, 0, 0, 233) := rfl
theorem i_M_chain_233 : ins m_M_chain 233 = some (.goto 4, 3, 237, 0, 236) := rfl
theorem i_M_chain_236 : ins m_M_chain 236 = some (.iconst 0, 1, 0, 0, 237) := rfl
theorem i_M_chain_237 : ins m_M_chain 237 = some (.invokevirtual 334, 3, 142, 2, 240) := rfl
theorem i_M_chain_240 : ins m_M_chain 240 = some (.istore 11, 2, 0, 0, 242) := rfl
theorem i_M_chain_242 : ins m_M_chain 242 = some (.aload_n 0, 1, 0, 0, 243) := rfl
theorem i_M_chain_243 : ins m_M_chain 243 = some (.iload 11, 2, 0, 0, 245) := rfl
theorem i_M_chain_245 : ins m_M_chain 245 = some (.aload_n 0, 1, 0, 0, 246) := rfl
theorem i_M_chain_246 : ins m_M_chain 246 = some (.iload 6, 2, 0, 0, 248) := rfl
theorem i_M_chain_248 : ins m_M_chain 248 = some (.invokevirtual 387, 3, 156, 1, 251) := rfl
theorem i_M_chain_251 : ins m_M_chain 251 = some (.invokevirtual 378, 3, 143, 2, 254) := rfl
theorem i_M_chain_254 : ins m_M_chain 254 = some (.aload_n 0, 1, 0, 0, 255) := rfl
theorem i_M_chain_255 : ins m_M_chain 255 = some (.iload 11, 2, 0, 0, 257) := rfl
theorem i_M_chain_257 : ins m_M_chain 257 = some (.aload_n 0, 1, 0, 0, 258) := rfl
theorem i_M_chain_258 : ins m_M_chain 258 = some (.iload 10, 2, 0, 0, 260) := rfl
theorem i_M_chain_260 : ins m_M_chain 260 = some (.invokevirtual 387, 3, 156, 1, 263) := rfl
theorem i_M_chain_263 : ins m_M_chain 263 = some (.invokevirtual 378, 3, 143, 2, 266) := rfl
theorem i_M_chain_266 : ins m_M_chain 266 = some (.aload_n 0, 1, 0, 0, 267) := rfl
theorem i_M_chain_267 : ins m_M_chain 267 = some (.iload 11, 2, 0, 0, 269) := rfl
theorem i_M_chain_269 : ins m_M_chain 269 = some (.invokevirtual 382, 3, 144, 1, 272) := rfl
theorem i_M_chain_272 : ins m_M_chain 272 = some (.istore 6, 2, 0, 0, 274) := rfl
theorem i_M_chain_274 : ins m_M_chain 274 = some (.aload_n 0, 1, 0, 0, 275) := rfl
theorem i_M_chain_275 : ins m_M_chain 275 = some (.getfield 306, 3, 1142, 0, 278) := rfl
theorem i_M_chain_278 : ins m_M_chain 278 = some (.ifCond .eq 5, 3, 283, 0, 281) := rfl
theorem i_M_chain_281 : ins m_M_chain 281 = some (.iconst 0, 1, 0, 0, 282) := rfl
theorem i_M_chain_282 : ins m_M_chain 282 = some (.ireturn, 1, 0, 0, 283) := rfl
theorem i_M_chain_283 : ins m_M_chain 283 = some (.goto (-243), 3, 40, 0, 286) := rfl
theorem i_M_parses_0 : ins m_M_parses 0 = some (.iconst 0, 1, 0, 0, 1) := rfl
theorem i_M_parses_1 : ins m_M_parses 1 = some (.istore_n 3, 1, 0, 0, 2) := rfl
theorem i_M_parses_2 : ins m_M_parses 2 = some (.iload_n 3, 1, 0, 0, 3) := rfl
theorem i_M_parses_3 : ins m_M_parses 3 = some (.aload_n 0, 1, 0, 0, 4) := rfl
theorem i_M_parses_4 : ins m_M_parses 4 = some (.getfield 83, 3, 1153, 0, 7) := rfl
theorem i_M_parses_7 : ins m_M_parses 7 = some (.arraylength, 1, 0, 0, 8) := rfl
theorem i_M_parses_8 : ins m_M_parses 8 = some (.if_icmp .ge 23, 3, 31, 0, 11) := rfl
theorem i_M_parses_11 : ins m_M_parses 11 = some (.aload_n 0, 1, 0, 0, 12) := rfl
theorem i_M_parses_12 : ins m_M_parses 12 = some (.getfield 83, 3, 1153, 0, 15) := rfl
theorem i_M_parses_15 : ins m_M_parses 15 = some (.iload_n 3, 1, 0, 0, 16) := rfl
theorem i_M_parses_16 : ins m_M_parses 16 = some (.iconst 0, 1, 0, 0, 17) := rfl
theorem i_M_parses_17 : ins m_M_parses 17 = some (.iastore, 1, 0, 0, 18) := rfl
theorem i_M_parses_18 : ins m_M_parses 18 = some (.aload_n 0, 1, 0, 0, 19) := rfl
theorem i_M_parses_19 : ins m_M_parses 19 = some (.getfield 95, 3, 1157, 0, 22) := rfl
theorem i_M_parses_22 : ins m_M_parses 22 = some (.iload_n 3, 1, 0, 0, 23) := rfl
theorem i_M_parses_23 : ins m_M_parses 23 = some (.iconst 0, 1, 0, 0, 24) := rfl
theorem i_M_parses_24 : ins m_M_parses 24 = some (.bastore, 1, 0, 0, 25) := rfl
theorem i_M_parses_25 : ins m_M_parses 25 = some (.iinc 3 1, 3, 0, 0, 28) := rfl
theorem i_M_parses_28 : ins m_M_parses 28 = some (.goto (-26), 3, 2, 0, 31) := rfl
theorem i_M_parses_31 : ins m_M_parses 31 = some (.aload_n 0, 1, 0, 0, 32) := rfl
theorem i_M_parses_32 : ins m_M_parses 32 = some (.iconst 0, 1, 0, 0, 33) := rfl
theorem i_M_parses_33 : ins m_M_parses 33 = some (.putfield 306, 3, 1142, 0, 36) := rfl
theorem i_M_parses_36 : ins m_M_parses 36 = some (.aload_n 0, 1, 0, 0, 37) := rfl
theorem i_M_parses_37 : ins m_M_parses 37 = some (.iconst 0, 1, 0, 0, 38) := rfl
theorem i_M_parses_38 : ins m_M_parses 38 = some (.putfield 321, 3, 1143, 0, 41) := rfl
theorem i_M_parses_41 : ins m_M_parses 41 = some (.aload_n 0, 1, 0, 0, 42) := rfl
theorem i_M_parses_42 : ins m_M_parses 42 = some (.iconst 0, 1, 0, 0, 43) := rfl
theorem i_M_parses_43 : ins m_M_parses 43 = some (.putfield 328, 3, 1145, 0, 46) := rfl
theorem i_M_parses_46 : ins m_M_parses 46 = some (.aload_n 0, 1, 0, 0, 47) := rfl
theorem i_M_parses_47 : ins m_M_parses 47 = some (.iconst 0, 1, 0, 0, 48) := rfl
theorem i_M_parses_48 : ins m_M_parses 48 = some (.putfield 369, 3, 1146, 0, 51) := rfl
theorem i_M_parses_51 : ins m_M_parses 51 = some (.aload_n 0, 1, 0, 0, 52) := rfl
theorem i_M_parses_52 : ins m_M_parses 52 = some (.iconst 0, 1, 0, 0, 53) := rfl
theorem i_M_parses_53 : ins m_M_parses 53 = some (.putfield 300, 3, 1150, 0, 56) := rfl
theorem i_M_parses_56 : ins m_M_parses 56 = some (.aload_n 0, 1, 0, 0, 57) := rfl
theorem i_M_parses_57 : ins m_M_parses 57 = some (.iconst 0, 1, 0, 0, 58) := rfl
theorem i_M_parses_58 : ins m_M_parses 58 = some (.putfield 303, 3, 1151, 0, 61) := rfl
theorem i_M_parses_61 : ins m_M_parses 61 = some (.aload_n 0, 1, 0, 0, 62) := rfl
theorem i_M_parses_62 : ins m_M_parses 62 = some (.iconst (-1), 1, 0, 0, 63) := rfl
theorem i_M_parses_63 : ins m_M_parses 63 = some (.putfield 309, 3, 1149, 0, 66) := rfl
theorem i_M_parses_66 : ins m_M_parses 66 = some (.aload_n 0, 1, 0, 0, 67) := rfl
theorem i_M_parses_67 : ins m_M_parses 67 = some (.bipush (-2), 2, 0, 0, 69) := rfl
theorem i_M_parses_69 : ins m_M_parses 69 = some (.invokevirtual 362, 3, 146, 1, 72) := rfl
theorem i_M_parses_72 : ins m_M_parses 72 = some (.aload_n 0, 1, 0, 0, 73) := rfl
theorem i_M_parses_73 : ins m_M_parses 73 = some (.iload_n 1, 1, 0, 0, 74) := rfl
theorem i_M_parses_74 : ins m_M_parses 74 = some (.iload_n 2, 1, 0, 0, 75) := rfl
theorem i_M_parses_75 : ins m_M_parses 75 = some (.invokevirtual 356, 3, 152, 2, 78) := rfl
theorem i_M_parses_78 : ins m_M_parses 78 = some (.istore_n 3, 1, 0, 0, 79) := rfl
theorem i_M_parses_79 : ins m_M_parses 79 = some (.aload_n 0, 1, 0, 0, 80) := rfl
theorem i_M_parses_80 : ins m_M_parses 80 = some (.getfield 306, 3, 1142, 0, 83) := rfl
theorem i_M_parses_83 : ins m_M_parses 83 = some (.ifCond .eq 10, 3, 93, 0, 86) := rfl
theorem i_M_parses_86 : ins m_M_parses 86 = some (.aload_n 0, 1, 0, 0, 87) := rfl
theorem i_M_parses_87 : ins m_M_parses 87 = some (.getfield 306, 3, 1142, 0, 90) := rfl
theorem i_M_parses_90 : ins m_M_parses 90 = some (.goto 28, 3, 118, 0, 93) := rfl
theorem i_M_parses_93 : ins m_M_parses 93 = some (.iload_n 3, 1, 0, 0, 94) := rfl
theorem i_M_parses_94 : ins m_M_parses 94 = some (.ifCond .eq 10, 3, 104, 0, 97) := rfl
theorem i_M_parses_97 : ins m_M_parses 97 = some (.aload_n 0, 1, 0, 0, 98) := rfl
theorem i_M_parses_98 : ins m_M_parses 98 = some (.getfield 315, 3, 1147, 0, 101) := rfl
theorem i_M_parses_101 : ins m_M_parses 101 = some (.goto 17, 3, 118, 0, 104) := rfl
theorem i_M_parses_104 : ins m_M_parses 104 = some (.aload_n 0, 1, 0, 0, 105) := rfl
theorem i_M_parses_105 : ins m_M_parses 105 = some (.getfield 312, 3, 1152, 0, 108) := rfl
theorem i_M_parses_108 : ins m_M_parses 108 = some (.ifCond .eq 8, 3, 116, 0, 111) := rfl
theorem i_M_parses_111 : ins m_M_parses 111 = some (.bipush (-6), 2, 0, 0, 113) := rfl
theorem i_M_parses_113 : ins m_M_parses 113 = some (.goto 5, 3, 118, 0, 116) := rfl
theorem i_M_parses_116 : ins m_M_parses 116 = some (.bipush (-5), 2, 0, 0, 118) := rfl
theorem i_M_parses_118 : ins m_M_parses 118 = some (.ireturn, 1, 0, 0, 119) := rfl
theorem i_M_isRule_0 : ins m_M_isRule 0 = some (.iload_n 1, 1, 0, 0, 1) := rfl
theorem i_M_isRule_1 : ins m_M_isRule 1 = some (.ifCond .lt 23, 3, 24, 0, 4) := rfl
theorem i_M_isRule_4 : ins m_M_isRule 4 = some (.iload_n 1, 1, 0, 0, 5) := rfl
theorem i_M_isRule_5 : ins m_M_isRule 5 = some (.bipush 8, 2, 0, 0, 7) := rfl
theorem i_M_isRule_7 : ins m_M_isRule 7 = some (.if_icmp .ge 17, 3, 24, 0, 10) := rfl
theorem i_M_isRule_10 : ins m_M_isRule 10 = some (.aload_n 0, 1, 0, 0, 11) := rfl
theorem i_M_isRule_11 : ins m_M_isRule 11 = some (.getfield 19, 3, 1107, 0, 14) := rfl
theorem i_M_isRule_14 : ins m_M_isRule 14 = some (.iload_n 1, 1, 0, 0, 15) := rfl
theorem i_M_isRule_15 : ins m_M_isRule 15 = some (.iaload, 1, 0, 0, 16) := rfl
theorem i_M_isRule_16 : ins m_M_isRule 16 = some (.iconst (-1), 1, 0, 0, 17) := rfl
theorem i_M_isRule_17 : ins m_M_isRule 17 = some (.if_icmp .eq 7, 3, 24, 0, 20) := rfl
theorem i_M_isRule_20 : ins m_M_isRule 20 = some (.iconst 1, 1, 0, 0, 21) := rfl
theorem i_M_isRule_21 : ins m_M_isRule 21 = some (.goto 4, 3, 25, 0, 24) := rfl
theorem i_M_isRule_24 : ins m_M_isRule 24 = some (.iconst 0, 1, 0, 0, 25) := rfl
theorem i_M_isRule_25 : ins m_M_isRule 25 = some (.ireturn, 1, 0, 0, 26) := rfl
theorem i_M_flat_0 : ins m_M_flat 0 = some (.aload_n 0, 1, 0, 0, 1) := rfl
theorem i_M_flat_1 : ins m_M_flat 1 = some (.getfield 390, 3, 1175, 0, 4) := rfl
theorem i_M_flat_4 : ins m_M_flat 4 = some (.istore_n 3, 1, 0, 0, 5) := rfl
theorem i_M_flat_5 : ins m_M_flat 5 = some (.aload_n 0, 1, 0, 0, 6) := rfl
theorem i_M_flat_6 : ins m_M_flat 6 = some (.dup, 1, 0, 0, 7) := rfl
theorem i_M_flat_7 : ins m_M_flat 7 = some (.getfield 390, 3, 1175, 0, 10) := rfl
theorem i_M_flat_10 : ins m_M_flat 10 = some (.iconst 1, 1, 0, 0, 11) := rfl
theorem i_M_flat_11 : ins m_M_flat 11 = some (.iadd, 1, 0, 0, 12) := rfl
theorem i_M_flat_12 : ins m_M_flat 12 = some (.putfield 390, 3, 1175, 0, 15) := rfl
theorem i_M_flat_15 : ins m_M_flat 15 = some (.aload_n 0, 1, 0, 0, 16) := rfl
theorem i_M_flat_16 : ins m_M_flat 16 = some (.getfield 131, 3, 1176, 0, 19) := rfl
theorem i_M_flat_19 : ins m_M_flat 19 = some (.iload_n 3, 1, 0, 0, 20) := rfl
theorem i_M_flat_20 : ins m_M_flat 20 = some (.aload_n 0, 1, 0, 0, 21) := rfl
theorem i_M_flat_21 : ins m_M_flat 21 = some (.getfield 110, 3, 1162, 0, 24) := rfl
theorem i_M_flat_24 : ins m_M_flat 24 = some (.iload_n 1, 1, 0, 0, 25) := rfl
theorem i_M_flat_25 : ins m_M_flat 25 = some (.iaload, 1, 0, 0, 26) := rfl
theorem i_M_flat_26 : ins m_M_flat 26 = some (.iastore, 1, 0, 0, 27) := rfl
theorem i_M_flat_27 : ins m_M_flat 27 = some (.aload_n 0, 1, 0, 0, 28) := rfl
theorem i_M_flat_28 : ins m_M_flat 28 = some (.getfield 134, 3, 1177, 0, 31) := rfl
theorem i_M_flat_31 : ins m_M_flat 31 = some (.iload_n 3, 1, 0, 0, 32) := rfl
theorem i_M_flat_32 : ins m_M_flat 32 = some (.aload_n 0, 1, 0, 0, 33) := rfl
theorem i_M_flat_33 : ins m_M_flat 33 = some (.getfield 113, 3, 1163, 0, 36) := rfl
theorem i_M_flat_36 : ins m_M_flat 36 = some (.iload_n 1, 1, 0, 0, 37) := rfl
theorem i_M_flat_37 : ins m_M_flat 37 = some (.iaload, 1, 0, 0, 38) := rfl
theorem i_M_flat_38 : ins m_M_flat 38 = some (.iastore, 1, 0, 0, 39) := rfl
theorem i_M_flat_39 : ins m_M_flat 39 = some (.aload_n 0, 1, 0, 0, 40) := rfl
theorem i_M_flat_40 : ins m_M_flat 40 = some (.getfield 140, 3, 1179, 0, 43) := rfl
theorem i_M_flat_43 : ins m_M_flat 43 = some (.iload_n 3, 1, 0, 0, 44) := rfl
theorem i_M_flat_44 : ins m_M_flat 44 = some (.iload_n 2, 1, 0, 0, 45) := rfl
theorem i_M_flat_45 : ins m_M_flat 45 = some (.iastore, 1, 0, 0, 46) := rfl
theorem i_M_flat_46 : ins m_M_flat 46 = some (.aload_n 0, 1, 0, 0, 47) := rfl
theorem i_M_flat_47 : ins m_M_flat 47 = some (.getfield 137, 3, 1178, 0, 50) := rfl
theorem i_M_flat_50 : ins m_M_flat 50 = some (.iload_n 3, 1, 0, 0, 51) := rfl
theorem i_M_flat_51 : ins m_M_flat 51 = some (.iconst 0, 1, 0, 0, 52) := rfl
theorem i_M_flat_52 : ins m_M_flat 52 = some (.iastore, 1, 0, 0, 53) := rfl
theorem i_M_flat_53 : ins m_M_flat 53 = some (.aload_n 0, 1, 0, 0, 54) := rfl
theorem i_M_flat_54 : ins m_M_flat 54 = some (.getfield 119, 3, 1165, 0, 57) := rfl
theorem i_M_flat_57 : ins m_M_flat 57 = some (.iload_n 1, 1, 0, 0, 58) := rfl
theorem i_M_flat_58 : ins m_M_flat 58 = some (.iaload, 1, 0, 0, 59) := rfl
theorem i_M_flat_59 : ins m_M_flat 59 = some (.istore 4, 2, 0, 0, 61) := rfl
theorem i_M_flat_61 : ins m_M_flat 61 = some (.iload 4, 2, 0, 0, 63) := rfl
theorem i_M_flat_63 : ins m_M_flat 63 = some (.iconst (-1), 1, 0, 0, 64) := rfl
theorem i_M_flat_64 : ins m_M_flat 64 = some (.if_icmp .eq 39, 3, 103, 0, 67) := rfl
theorem i_M_flat_67 : ins m_M_flat 67 = some (.aload_n 0, 1, 0, 0, 68) := rfl
theorem i_M_flat_68 : ins m_M_flat 68 = some (.getfield 137, 3, 1178, 0, 71) := rfl
theorem i_M_flat_71 : ins m_M_flat 71 = some (.iload_n 3, 1, 0, 0, 72) := rfl
theorem i_M_flat_72 : ins m_M_flat 72 = some (.dup2, 1, 0, 0, 73) := rfl
theorem i_M_flat_73 : ins m_M_flat 73 = some (.iaload, 1, 0, 0, 74) := rfl
theorem i_M_flat_74 : ins m_M_flat 74 = some (.iconst 1, 1, 0, 0, 75) := rfl
theorem i_M_flat_75 : ins m_M_flat 75 = some (.iadd, 1, 0, 0, 76) := rfl
theorem i_M_flat_76 : ins m_M_flat 76 = some (.iastore, 1, 0, 0, 77) := rfl
theorem i_M_flat_77 : ins m_M_flat 77 = some (.aload_n 0, 1, 0, 0, 78) := rfl
theorem i_M_flat_78 : ins m_M_flat 78 = some (.aload_n 0, 1, 0, 0, 79) := rfl
theorem i_M_flat_79 : ins m_M_flat 79 = some (.getfield 125, 3, 1167, 0, 82) := rfl
theorem i_M_flat_82 : ins m_M_flat 82 = some (.iload 4, 2, 0, 0, 84) := rfl
theorem i_M_flat_84 : ins m_M_flat 84 = some (.iaload, 1, 0, 0, 85) := rfl
theorem i_M_flat_85 : ins m_M_flat 85 = some (.iload_n 2, 1, 0, 0, 86) := rfl
theorem i_M_flat_86 : ins m_M_flat 86 = some (.iconst 1, 1, 0, 0, 87) := rfl
theorem i_M_flat_87 : ins m_M_flat 87 = some (.iadd, 1, 0, 0, 88) := rfl
theorem i_M_flat_88 : ins m_M_flat 88 = some (.invokevirtual 393, 3, 160, 2, 91) := rfl
theorem i_M_flat_91 : ins m_M_flat 91 = some (.aload_n 0, 1, 0, 0, 92) := rfl
theorem i_M_flat_92 : ins m_M_flat 92 = some (.getfield 128, 3, 1168, 0, 95) := rfl
theorem i_M_flat_95 : ins m_M_flat 95 = some (.iload 4, 2, 0, 0, 97) := rfl
theorem i_M_flat_97 : ins m_M_flat 97 = some (.iaload, 1, 0, 0, 98) := rfl
theorem i_M_flat_98 : ins m_M_flat 98 = some (.istore 4, 2, 0, 0, 100) := rfl
theorem i_M_flat_100 : ins m_M_flat 100 = some (.goto (-39), 3, 61, 0, 103) := rfl
theorem i_M_flat_103 : ins m_M_flat 103 = some (.return_, 1, 0, 0, 104) := rfl
theorem i_M_parse_0 : ins m_M_parse 0 = some (.aload_n 0, 1, 0, 0, 1) := rfl
theorem i_M_parse_1 : ins m_M_parse 1 = some (.iload_n 1, 1, 0, 0, 2) := rfl
theorem i_M_parse_2 : ins m_M_parse 2 = some (.invokevirtual 396, 3, 159, 1, 5) := rfl
theorem i_M_parse_5 : ins m_M_parse 5 = some (.ifCond .eq 15, 3, 20, 0, 8) := rfl
theorem i_M_parse_8 : ins m_M_parse 8 = some (.iload_n 2, 1, 0, 0, 9) := rfl
theorem i_M_parse_9 : ins m_M_parse 9 = some (.ifCond .lt 11, 3, 20, 0, 12) := rfl
theorem i_M_parse_12 : ins m_M_parse 12 = some (.iload_n 2, 1, 0, 0, 13) := rfl
theorem i_M_parse_13 : ins m_M_parse 13 = some (.aload_n 0, 1, 0, 0, 14) := rfl
theorem i_M_parse_14 : ins m_M_parse 14 = some (.getfield 155, 3, 1104, 0, 17) := rfl
theorem i_M_parse_17 : ins m_M_parse 17 = some (.if_icmp .le 6, 3, 23, 0, 20) := rfl
theorem i_M_parse_20 : ins m_M_parse 20 = some (.bipush (-2), 2, 0, 0, 22) := rfl
theorem i_M_parse_22 : ins m_M_parse 22 = some (.ireturn, 1, 0, 0, 23) := rfl
theorem i_M_parse_23 : ins m_M_parse 23 = some (.aload_n 0, 1, 0, 0, 24) := rfl
theorem i_M_parse_24 : ins m_M_parse 24 = some (.aload_n 0, 1, 0, 0, 25) := rfl
theorem i_M_parse_25 : ins m_M_parse 25 = some (.getfield 13, 3, 1101, 0, 28) := rfl
theorem i_M_parse_28 : ins m_M_parse 28 = some (.putfield 80, 3, 1140, 0, 31) := rfl
theorem i_M_parse_31 : ins m_M_parse 31 = some (.aload_n 0, 1, 0, 0, 32) := rfl
theorem i_M_parse_32 : ins m_M_parse 32 = some (.aload_n 0, 1, 0, 0, 33) := rfl
theorem i_M_parse_33 : ins m_M_parse 33 = some (.getfield 155, 3, 1104, 0, 36) := rfl
theorem i_M_parse_36 : ins m_M_parse 36 = some (.putfield 349, 3, 1141, 0, 39) := rfl
theorem i_M_parse_39 : ins m_M_parse 39 = some (.aload_n 0, 1, 0, 0, 40) := rfl
theorem i_M_parse_40 : ins m_M_parse 40 = some (.iload_n 1, 1, 0, 0, 41) := rfl
theorem i_M_parse_41 : ins m_M_parse 41 = some (.iload_n 2, 1, 0, 0, 42) := rfl
theorem i_M_parse_42 : ins m_M_parse 42 = some (.invokevirtual 399, 3, 158, 2, 45) := rfl
theorem i_M_parse_45 : ins m_M_parse 45 = some (.istore_n 3, 1, 0, 0, 46) := rfl
theorem i_M_parse_46 : ins m_M_parse 46 = some (.aload_n 0, 1, 0, 0, 47) := rfl
theorem i_M_parse_47 : ins m_M_parse 47 = some (.iconst 1, 1, 0, 0, 48) := rfl
theorem i_M_parse_48 : ins m_M_parse 48 = some (.putfield 158, 3, 1169, 0, 51) := rfl
theorem i_M_parse_51 : ins m_M_parse 51 = some (.aload_n 0, 1, 0, 0, 52) := rfl
theorem i_M_parse_52 : ins m_M_parse 52 = some (.aload_n 0, 1, 0, 0, 53) := rfl
theorem i_M_parse_53 : ins m_M_parse 53 = some (.getfield 104, 3, 1160, 0, 56) := rfl
theorem i_M_parse_56 : ins m_M_parse 56 = some (.iconst 0, 1, 0, 0, 57) := rfl
theorem i_M_parse_57 : ins m_M_parse 57 = some (.iaload, 1, 0, 0, 58) := rfl
theorem i_M_parse_58 : ins m_M_parse 58 = some (.putfield 402, 3, 1171, 0, 61) := rfl
theorem i_M_parse_61 : ins m_M_parse 61 = some (.aload_n 0, 1, 0, 0, 62) := rfl
theorem i_M_parse_62 : ins m_M_parse 62 = some (.aload_n 0, 1, 0, 0, 63) := rfl
theorem i_M_parse_63 : ins m_M_parse 63 = some (.getfield 107, 3, 1161, 0, 66) := rfl
theorem i_M_parse_66 : ins m_M_parse 66 = some (.iconst 0, 1, 0, 0, 67) := rfl
theorem i_M_parse_67 : ins m_M_parse 67 = some (.iaload, 1, 0, 0, 68) := rfl
theorem i_M_parse_68 : ins m_M_parse 68 = some (.putfield 405, 3, 1172, 0, 71) := rfl
theorem i_M_parse_71 : ins m_M_parse 71 = some (.aload_n 0, 1, 0, 0, 72) := rfl
theorem i_M_parse_72 : ins m_M_parse 72 = some (.aload_n 0, 1, 0, 0, 73) := rfl
theorem i_M_parse_73 : ins m_M_parse 73 = some (.getfield 321, 3, 1143, 0, 76) := rfl
theorem i_M_parse_76 : ins m_M_parse 76 = some (.putfield 408, 3, 1173, 0, 79) := rfl
theorem i_M_parse_79 : ins m_M_parse 79 = some (.aload_n 0, 1, 0, 0, 80) := rfl
theorem i_M_parse_80 : ins m_M_parse 80 = some (.aload_n 0, 1, 0, 0, 81) := rfl
theorem i_M_parse_81 : ins m_M_parse 81 = some (.getfield 369, 3, 1146, 0, 84) := rfl
theorem i_M_parse_84 : ins m_M_parse 84 = some (.putfield 411, 3, 1174, 0, 87) := rfl
theorem i_M_parse_87 : ins m_M_parse 87 = some (.aload_n 0, 1, 0, 0, 88) := rfl
theorem i_M_parse_88 : ins m_M_parse 88 = some (.aload_n 0, 1, 0, 0, 89) := rfl
theorem i_M_parse_89 : ins m_M_parse 89 = some (.getfield 306, 3, 1142, 0, 92) := rfl
theorem i_M_parse_92 : ins m_M_parse 92 = some (.ifCond .ne 14, 3, 106, 0, 95) := rfl
theorem i_M_parse_95 : ins m_M_parse 95 = some (.aload_n 0, 1, 0, 0, 96) := rfl
theorem i_M_parse_96 : ins m_M_parse 96 = some (.getfield 312, 3, 1152, 0, 99) := rfl
theorem i_M_parse_99 : ins m_M_parse 99 = some (.ifCond .eq 7, 3, 106, 0, 102) := rfl
theorem i_M_parse_102 : ins m_M_parse 102 = some (.iconst 1, 1, 0, 0, 103) := rfl
theorem i_M_parse_103 : ins m_M_parse 103 = some (.goto 4, 3, 107, 0, 106) := rfl
theorem i_M_parse_106 : ins m_M_parse 106 = some (.iconst 0, 1, 0, 0, 107) := rfl
theorem i_M_parse_107 : ins m_M_parse 107 = some (.putfield 414, 3, 1170, 0, 110) := rfl
theorem i_M_parse_110 : ins m_M_parse 110 = some (.aload_n 0, 1, 0, 0, 111) := rfl
theorem i_M_parse_111 : ins m_M_parse 111 = some (.iconst 0, 1, 0, 0, 112) := rfl
theorem i_M_parse_112 : ins m_M_parse 112 = some (.putfield 390, 3, 1175, 0, 115) := rfl
theorem i_M_parse_115 : ins m_M_parse 115 = some (.iload_n 3, 1, 0, 0, 116) := rfl
theorem i_M_parse_116 : ins m_M_parse 116 = some (.ifCond .lt 20, 3, 136, 0, 119) := rfl
theorem i_M_parse_119 : ins m_M_parse 119 = some (.aload_n 0, 1, 0, 0, 120) := rfl
theorem i_M_parse_120 : ins m_M_parse 120 = some (.getfield 318, 3, 1148, 0, 123) := rfl
theorem i_M_parse_123 : ins m_M_parse 123 = some (.iconst (-1), 1, 0, 0, 124) := rfl
theorem i_M_parse_124 : ins m_M_parse 124 = some (.if_icmp .eq 12, 3, 136, 0, 127) := rfl
theorem i_M_parse_127 : ins m_M_parse 127 = some (.aload_n 0, 1, 0, 0, 128) := rfl
theorem i_M_parse_128 : ins m_M_parse 128 = some (.aload_n 0, 1, 0, 0, 129) := rfl
theorem i_M_parse_129 : ins m_M_parse 129 = some (.getfield 318, 3, 1148, 0, 132) := rfl
theorem i_M_parse_132 : ins m_M_parse 132 = some (.iconst 0, 1, 0, 0, 133) := rfl
theorem i_M_parse_133 : ins m_M_parse 133 = some (.invokevirtual 393, 3, 160, 2, 136) := rfl
theorem i_M_parse_136 : ins m_M_parse 136 = some (.aload_n 0, 1, 0, 0, 137) := rfl
theorem i_M_parse_137 : ins m_M_parse 137 = some (.iconst 0, 1, 0, 0, 138) := rfl
theorem i_M_parse_138 : ins m_M_parse 138 = some (.putfield 417, 3, 1181, 0, 141) := rfl
theorem i_M_parse_141 : ins m_M_parse 141 = some (.aload_n 0, 1, 0, 0, 142) := rfl
theorem i_M_parse_142 : ins m_M_parse 142 = some (.iconst 0, 1, 0, 0, 143) := rfl
theorem i_M_parse_143 : ins m_M_parse 143 = some (.putfield 420, 3, 1182, 0, 146) := rfl
theorem i_M_parse_146 : ins m_M_parse 146 = some (.aload_n 0, 1, 0, 0, 147) := rfl
theorem i_M_parse_147 : ins m_M_parse 147 = some (.getfield 390, 3, 1175, 0, 150) := rfl
theorem i_M_parse_150 : ins m_M_parse 150 = some (.ifCond .le 7, 3, 157, 0, 153) := rfl
theorem i_M_parse_153 : ins m_M_parse 153 = some (.aload_n 0, 1, 0, 0, 154) := rfl
theorem i_M_parse_154 : ins m_M_parse 154 = some (.invokevirtual 423, 3, 167, 0, 157) := rfl
theorem i_M_parse_157 : ins m_M_parse 157 = some (.iload_n 3, 1, 0, 0, 158) := rfl
theorem i_M_parse_158 : ins m_M_parse 158 = some (.ireturn, 1, 0, 0, 159) := rfl
theorem i_M_told_0 : ins m_M_told 0 = some (.iload_n 1, 1, 0, 0, 1) := rfl
theorem i_M_told_1 : ins m_M_told 1 = some (.ifCond .lt 8, 3, 9, 0, 4) := rfl
theorem i_M_told_4 : ins m_M_told 4 = some (.iload_n 1, 1, 0, 0, 5) := rfl
theorem i_M_told_5 : ins m_M_told 5 = some (.iconst 5, 1, 0, 0, 6) := rfl
theorem i_M_told_6 : ins m_M_told 6 = some (.if_icmp .le 6, 3, 12, 0, 9) := rfl
theorem i_M_told_9 : ins m_M_told 9 = some (.bipush (-2), 2, 0, 0, 11) := rfl
theorem i_M_told_11 : ins m_M_told 11 = some (.ireturn, 1, 0, 0, 12) := rfl
theorem i_M_told_12 : ins m_M_told 12 = some (.aload_n 0, 1, 0, 0, 13) := rfl
theorem i_M_told_13 : ins m_M_told 13 = some (.getfield 158, 3, 1169, 0, 16) := rfl
theorem i_M_told_16 : ins m_M_told 16 = some (.ifCond .ne 6, 3, 22, 0, 19) := rfl
theorem i_M_told_19 : ins m_M_told 19 = some (.bipush (-3), 2, 0, 0, 21) := rfl
theorem i_M_told_21 : ins m_M_told 21 = some (.ireturn, 1, 0, 0, 22) := rfl
theorem i_M_told_22 : ins m_M_told 22 = some (.iload_n 1, 1, 0, 0, 23) := rfl
theorem i_M_told_23 : ins m_M_told 23 = some (.ifCond .ne 10, 3, 33, 0, 26) := rfl
theorem i_M_told_26 : ins m_M_told 26 = some (.aload_n 0, 1, 0, 0, 27) := rfl
theorem i_M_told_27 : ins m_M_told 27 = some (.getfield 402, 3, 1171, 0, 30) := rfl
theorem i_M_told_30 : ins m_M_told 30 = some (.goto 63, 3, 93, 0, 33) := rfl
theorem i_M_told_33 : ins m_M_told 33 = some (.iload_n 1, 1, 0, 0, 34) := rfl
theorem i_M_told_34 : ins m_M_told 34 = some (.iconst 1, 1, 0, 0, 35) := rfl
theorem i_M_told_35 : ins m_M_told 35 = some (.if_icmp .ne 10, 3, 45, 0, 38) := rfl
theorem i_M_told_38 : ins m_M_told 38 = some (.aload_n 0, 1, 0, 0, 39) := rfl
theorem i_M_told_39 : ins m_M_told 39 = some (.getfield 405, 3, 1172, 0, 42) := rfl
theorem i_M_told_42 : ins m_M_told 42 = some (.goto 51, 3, 93, 0, 45) := rfl
theorem i_M_told_45 : ins m_M_told 45 = some (.iload_n 1, 1, 0, 0, 46) := rfl
theorem i_M_told_46 : ins m_M_told 46 = some (.iconst 2, 1, 0, 0, 47) := rfl
theorem i_M_told_47 : ins m_M_told 47 = some (.if_icmp .ne 10, 3, 57, 0, 50) := rfl
theorem i_M_told_50 : ins m_M_told 50 = some (.aload_n 0, 1, 0, 0, 51) := rfl
theorem i_M_told_51 : ins m_M_told 51 = some (.getfield 408, 3, 1173, 0, 54) := rfl
theorem i_M_told_54 : ins m_M_told 54 = some (.goto 39, 3, 93, 0, 57) := rfl
theorem i_M_told_57 : ins m_M_told 57 = some (.iload_n 1, 1, 0, 0, 58) := rfl
theorem i_M_told_58 : ins m_M_told 58 = some (.iconst 3, 1, 0, 0, 59) := rfl
theorem i_M_told_59 : ins m_M_told 59 = some (.if_icmp .ne 10, 3, 69, 0, 62) := rfl
theorem i_M_told_62 : ins m_M_told 62 = some (.aload_n 0, 1, 0, 0, 63) := rfl
theorem i_M_told_63 : ins m_M_told 63 = some (.getfield 411, 3, 1174, 0, 66) := rfl
theorem i_M_told_66 : ins m_M_told 66 = some (.goto 27, 3, 93, 0, 69) := rfl
theorem i_M_told_69 : ins m_M_told 69 = some (.iload_n 1, 1, 0, 0, 70) := rfl
theorem i_M_told_70 : ins m_M_told 70 = some (.iconst 4, 1, 0, 0, 71) := rfl
theorem i_M_told_71 : ins m_M_told 71 = some (.if_icmp .ne 18, 3, 89, 0, 74) := rfl
theorem i_M_told_74 : ins m_M_told 74 = some (.aload_n 0, 1, 0, 0, 75) := rfl
theorem i_M_told_75 : ins m_M_told 75 = some (.getfield 414, 3, 1170, 0, 78) := rfl
theorem i_M_told_78 : ins m_M_told 78 = some (.ifCond .eq 7, 3, 85, 0, 81) := rfl
theorem i_M_told_81 : ins m_M_told 81 = some (.iconst 1, 1, 0, 0, 82) := rfl
theorem i_M_told_82 : ins m_M_told 82 = some (.goto 11, 3, 93, 0, 85) := rfl
theorem i_M_told_85 : ins m_M_told 85 = some (.iconst 0, 1, 0, 0, 86) := rfl
theorem i_M_told_86 : ins m_M_told 86 = some (.goto 7, 3, 93, 0, 89) := rfl
theorem i_M_told_89 : ins m_M_told 89 = some (.aload_n 0, 1, 0, 0, 90) := rfl
theorem i_M_told_90 : ins m_M_told 90 = some (.getfield 390, 3, 1175, 0, 93) := rfl
theorem i_M_told_93 : ins m_M_told 93 = some (.ireturn, 1, 0, 0, 94) := rfl
theorem i_M_node_0 : ins m_M_node 0 = some (.iload_n 2, 1, 0, 0, 1) := rfl
theorem i_M_node_1 : ins m_M_node 1 = some (.ifCond .lt 8, 3, 9, 0, 4) := rfl
theorem i_M_node_4 : ins m_M_node 4 = some (.iload_n 2, 1, 0, 0, 5) := rfl
theorem i_M_node_5 : ins m_M_node 5 = some (.iconst 2, 1, 0, 0, 6) := rfl
theorem i_M_node_6 : ins m_M_node 6 = some (.if_icmp .le 6, 3, 12, 0, 9) := rfl
theorem i_M_node_9 : ins m_M_node 9 = some (.bipush (-2), 2, 0, 0, 11) := rfl
theorem i_M_node_11 : ins m_M_node 11 = some (.ireturn, 1, 0, 0, 12) := rfl
theorem i_M_node_12 : ins m_M_node 12 = some (.aload_n 0, 1, 0, 0, 13) := rfl
theorem i_M_node_13 : ins m_M_node 13 = some (.getfield 158, 3, 1169, 0, 16) := rfl
theorem i_M_node_16 : ins m_M_node 16 = some (.ifCond .ne 6, 3, 22, 0, 19) := rfl
theorem i_M_node_19 : ins m_M_node 19 = some (.bipush (-3), 2, 0, 0, 21) := rfl
theorem i_M_node_21 : ins m_M_node 21 = some (.ireturn, 1, 0, 0, 22) := rfl
theorem i_M_node_22 : ins m_M_node 22 = some (.iload_n 1, 1, 0, 0, 23) := rfl
theorem i_M_node_23 : ins m_M_node 23 = some (.ifCond .lt 11, 3, 34, 0, 26) := rfl
theorem i_M_node_26 : ins m_M_node 26 = some (.iload_n 1, 1, 0, 0, 27) := rfl
theorem i_M_node_27 : ins m_M_node 27 = some (.aload_n 0, 1, 0, 0, 28) := rfl
theorem i_M_node_28 : ins m_M_node 28 = some (.getfield 390, 3, 1175, 0, 31) := rfl
theorem i_M_node_31 : ins m_M_node 31 = some (.if_icmp .lt 5, 3, 36, 0, 34) := rfl
theorem i_M_node_34 : ins m_M_node 34 = some (.iconst (-1), 1, 0, 0, 35) := rfl
theorem i_M_node_35 : ins m_M_node 35 = some (.ireturn, 1, 0, 0, 36) := rfl
theorem i_M_node_36 : ins m_M_node 36 = some (.iload_n 2, 1, 0, 0, 37) := rfl
theorem i_M_node_37 : ins m_M_node 37 = some (.ifCond .ne 12, 3, 49, 0, 40) := rfl
theorem i_M_node_40 : ins m_M_node 40 = some (.aload_n 0, 1, 0, 0, 41) := rfl
theorem i_M_node_41 : ins m_M_node 41 = some (.getfield 131, 3, 1176, 0, 44) := rfl
theorem i_M_node_44 : ins m_M_node 44 = some (.iload_n 1, 1, 0, 0, 45) := rfl
theorem i_M_node_45 : ins m_M_node 45 = some (.iaload, 1, 0, 0, 46) := rfl
theorem i_M_node_46 : ins m_M_node 46 = some (.goto 42, 3, 88, 0, 49) := rfl
theorem i_M_node_49 : ins m_M_node 49 = some (.iload_n 2, 1, 0, 0, 50) := rfl
theorem i_M_node_50 : ins m_M_node 50 = some (.iconst 2, 1, 0, 0, 51) := rfl
theorem i_M_node_51 : ins m_M_node 51 = some (.if_icmp .ne 12, 3, 63, 0, 54) := rfl
theorem i_M_node_54 : ins m_M_node 54 = some (.aload_n 0, 1, 0, 0, 55) := rfl
theorem i_M_node_55 : ins m_M_node 55 = some (.getfield 140, 3, 1179, 0, 58) := rfl
theorem i_M_node_58 : ins m_M_node 58 = some (.iload_n 1, 1, 0, 0, 59) := rfl
theorem i_M_node_59 : ins m_M_node 59 = some (.iaload, 1, 0, 0, 60) := rfl
theorem i_M_node_60 : ins m_M_node 60 = some (.goto 28, 3, 88, 0, 63) := rfl
theorem i_M_node_63 : ins m_M_node 63 = some (.aload_n 0, 1, 0, 0, 64) := rfl
theorem i_M_node_64 : ins m_M_node 64 = some (.getfield 131, 3, 1176, 0, 67) := rfl
theorem i_M_node_67 : ins m_M_node 67 = some (.iload_n 1, 1, 0, 0, 68) := rfl
theorem i_M_node_68 : ins m_M_node 68 = some (.iaload, 1, 0, 0, 69) := rfl
theorem i_M_node_69 : ins m_M_node 69 = some (.iconst 1, 1, 0, 0, 70) := rfl
theorem i_M_node_70 : ins m_M_node 70 = some (.if_icmp .ne 12, 3, 82, 0, 73) := rfl
theorem i_M_node_73 : ins m_M_node 73 = some (.aload_n 0, 1, 0, 0, 74) := rfl
theorem i_M_node_74 : ins m_M_node 74 = some (.getfield 137, 3, 1178, 0, 77) := rfl
theorem i_M_node_77 : ins m_M_node 77 = some (.iload_n 1, 1, 0, 0, 78) := rfl
theorem i_M_node_78 : ins m_M_node 78 = some (.iaload, 1, 0, 0, 79) := rfl
theorem i_M_node_79 : ins m_M_node 79 = some (.goto 9, 3, 88, 0, 82) := rfl
theorem i_M_node_82 : ins m_M_node 82 = some (.aload_n 0, 1, 0, 0, 83) := rfl
theorem i_M_node_83 : ins m_M_node 83 = some (.getfield 134, 3, 1177, 0, 86) := rfl
theorem i_M_node_86 : ins m_M_node 86 = some (.iload_n 1, 1, 0, 0, 87) := rfl
theorem i_M_node_87 : ins m_M_node 87 = some (.iaload, 1, 0, 0, 88) := rfl
theorem i_M_node_88 : ins m_M_node 88 = some (.ireturn, 1, 0, 0, 89) := rfl
theorem i_M_worthFrom_0 : ins m_M_worthFrom 0 = some (.aload_n 0, 1, 0, 0, 1) := rfl
theorem i_M_worthFrom_1 : ins m_M_worthFrom 1 = some (.getfield 420, 3, 1182, 0, 4) := rfl
theorem i_M_worthFrom_4 : ins m_M_worthFrom 4 = some (.istore_n 1, 1, 0, 0, 5) := rfl
theorem i_M_worthFrom_5 : ins m_M_worthFrom 5 = some (.aload_n 0, 1, 0, 0, 6) := rfl
theorem i_M_worthFrom_6 : ins m_M_worthFrom 6 = some (.dup, 1, 0, 0, 7) := rfl
theorem i_M_worthFrom_7 : ins m_M_worthFrom 7 = some (.getfield 420, 3, 1182, 0, 10) := rfl
theorem i_M_worthFrom_10 : ins m_M_worthFrom 10 = some (.iconst 1, 1, 0, 0, 11) := rfl
theorem i_M_worthFrom_11 : ins m_M_worthFrom 11 = some (.iadd, 1, 0, 0, 12) := rfl
theorem i_M_worthFrom_12 : ins m_M_worthFrom 12 = some (.putfield 420, 3, 1182, 0, 15) := rfl
theorem i_M_worthFrom_15 : ins m_M_worthFrom 15 = some (.aload_n 0, 1, 0, 0, 16) := rfl
theorem i_M_worthFrom_16 : ins m_M_worthFrom 16 = some (.getfield 131, 3, 1176, 0, 19) := rfl
theorem i_M_worthFrom_19 : ins m_M_worthFrom 19 = some (.iload_n 1, 1, 0, 0, 20) := rfl
theorem i_M_worthFrom_20 : ins m_M_worthFrom 20 = some (.iaload, 1, 0, 0, 21) := rfl
theorem i_M_worthFrom_21 : ins m_M_worthFrom 21 = some (.ifCond .ne 10, 3, 31, 0, 24) := rfl
theorem i_M_worthFrom_24 : ins m_M_worthFrom 24 = some (.aload_n 0, 1, 0, 0, 25) := rfl
theorem i_M_worthFrom_25 : ins m_M_worthFrom 25 = some (.getfield 134, 3, 1177, 0, 28) := rfl
theorem i_M_worthFrom_28 : ins m_M_worthFrom 28 = some (.iload_n 1, 1, 0, 0, 29) := rfl
theorem i_M_worthFrom_29 : ins m_M_worthFrom 29 = some (.iaload, 1, 0, 0, 30) := rfl
theorem i_M_worthFrom_30 : ins m_M_worthFrom 30 = some (.ireturn, 1, 0, 0, 31) := rfl
theorem i_M_worthFrom_31 : ins m_M_worthFrom 31 = some (.iconst 0, 1, 0, 0, 32) := rfl
theorem i_M_worthFrom_32 : ins m_M_worthFrom 32 = some (.istore_n 2, 1, 0, 0, 33) := rfl
theorem i_M_worthFrom_33 : ins m_M_worthFrom 33 = some (.aload_n 0, 1, 0, 0, 34) := rfl
theorem i_M_worthFrom_34 : ins m_M_worthFrom 34 = some (.getfield 131, 3, 1176, 0, 37) := rfl
theorem i_M_worthFrom_37 : ins m_M_worthFrom 37 = some (.iload_n 1, 1, 0, 0, 38) := rfl
theorem i_M_worthFrom_38 : ins m_M_worthFrom 38 = some (.iaload, 1, 0, 0, 39) := rfl
theorem i_M_worthFrom_39 : ins m_M_worthFrom 39 = some (.iconst 1, 1, 0, 0, 40) := rfl
theorem i_M_worthFrom_40 : ins m_M_worthFrom 40 = some (.if_icmp .ne 33, 3, 73, 0, 43) := rfl
theorem i_M_worthFrom_43 : ins m_M_worthFrom 43 = some (.iconst 0, 1, 0, 0, 44) := rfl
theorem i_M_worthFrom_44 : ins m_M_worthFrom 44 = some (.istore_n 3, 1, 0, 0, 45) := rfl
theorem i_M_worthFrom_45 : ins m_M_worthFrom 45 = some (.iload_n 3, 1, 0, 0, 46) := rfl
theorem i_M_worthFrom_46 : ins m_M_worthFrom 46 = some (.aload_n 0, 1, 0, 0, 47) := rfl
theorem i_M_worthFrom_47 : ins m_M_worthFrom 47 = some (.getfield 137, 3, 1178, 0, 50) := rfl
theorem i_M_worthFrom_50 : ins m_M_worthFrom 50 = some (.iload_n 1, 1, 0, 0, 51) := rfl
theorem i_M_worthFrom_51 : ins m_M_worthFrom 51 = some (.iaload, 1, 0, 0, 52) := rfl
theorem i_M_worthFrom_52 : ins m_M_worthFrom 52 = some (.if_icmp .ge 19, 3, 71, 0, 55) := rfl
theorem i_M_worthFrom_55 : ins m_M_worthFrom 55 = some (.bipush 10, 2, 0, 0, 57) := rfl
theorem i_M_worthFrom_57 : ins m_M_worthFrom 57 = some (.iload_n 2, 1, 0, 0, 58) := rfl
theorem i_M_worthFrom_58 : ins m_M_worthFrom 58 = some (.imul, 1, 0, 0, 59) := rfl
theorem i_M_worthFrom_59 : ins m_M_worthFrom 59 = some (.aload_n 0, 1, 0, 0, 60) := rfl
theorem i_M_worthFrom_60 : ins m_M_worthFrom 60 = some (.invokevirtual 426, 3, 164, 0, 63) := rfl
theorem i_M_worthFrom_63 : ins m_M_worthFrom 63 = some (.iadd, 1, 0, 0, 64) := rfl
theorem i_M_worthFrom_64 : ins m_M_worthFrom 64 = some (.istore_n 2, 1, 0, 0, 65) := rfl
theorem i_M_worthFrom_65 : ins m_M_worthFrom 65 = some (.iinc 3 1, 3, 0, 0, 68) := rfl
theorem i_M_worthFrom_68 : ins m_M_worthFrom 68 = some (.goto (-23), 3, 45, 0, 71) := rfl
theorem i_M_worthFrom_71 : ins m_M_worthFrom 71 = some (.iload_n 2, 1, 0, 0, 72) := rfl
theorem i_M_worthFrom_72 : ins m_M_worthFrom 72 = some (.ireturn, 1, 0, 0, 73) := rfl
theorem i_M_worthFrom_73 : ins m_M_worthFrom 73 = some (.aload_n 0, 1, 0, 0, 74) := rfl
theorem i_M_worthFrom_74 : ins m_M_worthFrom 74 = some (.invokevirtual 426, 3, 164, 0, 77) := rfl
theorem i_M_worthFrom_77 : ins m_M_worthFrom 77 = some (.istore_n 3, 1, 0, 0, 78) := rfl
theorem i_M_worthFrom_78 : ins m_M_worthFrom 78 = some (.aload_n 0, 1, 0, 0, 79) := rfl
theorem i_M_worthFrom_79 : ins m_M_worthFrom 79 = some (.invokevirtual 426, 3, 164, 0, 82) := rfl
theorem i_M_worthFrom_82 : ins m_M_worthFrom 82 = some (.istore 4, 2, 0, 0, 84) := rfl
theorem i_M_worthFrom_84 : ins m_M_worthFrom 84 = some (.aload_n 0, 1, 0, 0, 85) := rfl
theorem i_M_worthFrom_85 : ins m_M_worthFrom 85 = some (.getfield 134, 3, 1177, 0, 88) := rfl
theorem i_M_worthFrom_88 : ins m_M_worthFrom 88 = some (.iload_n 1, 1, 0, 0, 89) := rfl
theorem i_M_worthFrom_89 : ins m_M_worthFrom 89 = some (.iaload, 1, 0, 0, 90) := rfl
theorem i_M_worthFrom_90 : ins m_M_worthFrom 90 = some (.bipush 43, 2, 0, 0, 92) := rfl
theorem i_M_worthFrom_92 : ins m_M_worthFrom 92 = some (.if_icmp .ne 10, 3, 102, 0, 95) := rfl
theorem i_M_worthFrom_95 : ins m_M_worthFrom 95 = some (.iload_n 3, 1, 0, 0, 96) := rfl
theorem i_M_worthFrom_96 : ins m_M_worthFrom 96 = some (.iload 4, 2, 0, 0, 98) := rfl
theorem i_M_worthFrom_98 : ins m_M_worthFrom 98 = some (.iadd, 1, 0, 0, 99) := rfl
theorem i_M_worthFrom_99 : ins m_M_worthFrom 99 = some (.goto 40, 3, 139, 0, 102) := rfl
theorem i_M_worthFrom_102 : ins m_M_worthFrom 102 = some (.aload_n 0, 1, 0, 0, 103) := rfl
theorem i_M_worthFrom_103 : ins m_M_worthFrom 103 = some (.getfield 134, 3, 1177, 0, 106) := rfl
theorem i_M_worthFrom_106 : ins m_M_worthFrom 106 = some (.iload_n 1, 1, 0, 0, 107) := rfl
theorem i_M_worthFrom_107 : ins m_M_worthFrom 107 = some (.iaload, 1, 0, 0, 108) := rfl
theorem i_M_worthFrom_108 : ins m_M_worthFrom 108 = some (.bipush 45, 2, 0, 0, 110) := rfl
theorem i_M_worthFrom_110 : ins m_M_worthFrom 110 = some (.if_icmp .ne 10, 3, 120, 0, 113) := rfl
theorem i_M_worthFrom_113 : ins m_M_worthFrom 113 = some (.iload_n 3, 1, 0, 0, 114) := rfl
theorem i_M_worthFrom_114 : ins m_M_worthFrom 114 = some (.iload 4, 2, 0, 0, 116) := rfl
theorem i_M_worthFrom_116 : ins m_M_worthFrom 116 = some (.isub, 1, 0, 0, 117) := rfl
theorem i_M_worthFrom_117 : ins m_M_worthFrom 117 = some (.goto 22, 3, 139, 0, 120) := rfl
theorem i_M_worthFrom_120 : ins m_M_worthFrom 120 = some (.aload_n 0, 1, 0, 0, 121) := rfl
theorem i_M_worthFrom_121 : ins m_M_worthFrom 121 = some (.getfield 134, 3, 1177, 0, 124) := rfl
theorem i_M_worthFrom_124 : ins m_M_worthFrom 124 = some (.iload_n 1, 1, 0, 0, 125) := rfl
theorem i_M_worthFrom_125 : ins m_M_worthFrom 125 = some (.iaload, 1, 0, 0, 126) := rfl
theorem i_M_worthFrom_126 : ins m_M_worthFrom 126 = some (.bipush 42, 2, 0, 0, 128) := rfl
theorem i_M_worthFrom_128 : ins m_M_worthFrom 128 = some (.if_icmp .ne 10, 3, 138, 0, 131) := rfl
theorem i_M_worthFrom_131 : ins m_M_worthFrom 131 = some (.iload_n 3, 1, 0, 0, 132) := rfl
theorem i_M_worthFrom_132 : ins m_M_worthFrom 132 = some (.iload 4, 2, 0, 0, 134) := rfl
theorem i_M_worthFrom_134 : ins m_M_worthFrom 134 = some (.imul, 1, 0, 0, 135) := rfl
theorem i_M_worthFrom_135 : ins m_M_worthFrom 135 = some (.goto 4, 3, 139, 0, 138) := rfl
theorem i_M_worthFrom_138 : ins m_M_worthFrom 138 = some (.iconst 0, 1, 0, 0, 139) := rfl
theorem i_M_worthFrom_139 : ins m_M_worthFrom 139 = some (.ireturn, 1, 0, 0, 140) := rfl
theorem i_M_worth_0 : ins m_M_worth 0 = some (.aload_n 0, 1, 0, 0, 1) := rfl
theorem i_M_worth_1 : ins m_M_worth 1 = some (.getfield 158, 3, 1169, 0, 4) := rfl
theorem i_M_worth_4 : ins m_M_worth 4 = some (.ifCond .ne 6, 3, 10, 0, 7) := rfl
theorem i_M_worth_7 : ins m_M_worth 7 = some (.bipush (-3), 2, 0, 0, 9) := rfl
theorem i_M_worth_9 : ins m_M_worth 9 = some (.ireturn, 1, 0, 0, 10) := rfl
theorem i_M_worth_10 : ins m_M_worth 10 = some (.aload_n 0, 1, 0, 0, 11) := rfl
theorem i_M_worth_11 : ins m_M_worth 11 = some (.iconst 0, 1, 0, 0, 12) := rfl
theorem i_M_worth_12 : ins m_M_worth 12 = some (.putfield 420, 3, 1182, 0, 15) := rfl
theorem i_M_worth_15 : ins m_M_worth 15 = some (.aload_n 0, 1, 0, 0, 16) := rfl
theorem i_M_worth_16 : ins m_M_worth 16 = some (.getfield 390, 3, 1175, 0, 19) := rfl
theorem i_M_worth_19 : ins m_M_worth 19 = some (.ifCond .ne 7, 3, 26, 0, 22) := rfl
theorem i_M_worth_22 : ins m_M_worth 22 = some (.iconst 0, 1, 0, 0, 23) := rfl
theorem i_M_worth_23 : ins m_M_worth 23 = some (.goto 7, 3, 30, 0, 26) := rfl
theorem i_M_worth_26 : ins m_M_worth 26 = some (.aload_n 0, 1, 0, 0, 27) := rfl
theorem i_M_worth_27 : ins m_M_worth 27 = some (.invokevirtual 426, 3, 164, 0, 30) := rfl
theorem i_M_worth_30 : ins m_M_worth 30 = some (.ireturn, 1, 0, 0, 31) := rfl
theorem i_M_write_0 : ins m_M_write 0 = some (.aload_n 0, 1, 0, 0, 1) := rfl
theorem i_M_write_1 : ins m_M_write 1 = some (.getfield 143, 3, 1180, 0, 4) := rfl
theorem i_M_write_4 : ins m_M_write 4 = some (.aload_n 0, 1, 0, 0, 5) := rfl
theorem i_M_write_5 : ins m_M_write 5 = some (.getfield 417, 3, 1181, 0, 8) := rfl
theorem i_M_write_8 : ins m_M_write 8 = some (.iload_n 1, 1, 0, 0, 9) := rfl
theorem i_M_write_9 : ins m_M_write 9 = some (.iastore, 1, 0, 0, 10) := rfl
theorem i_M_write_10 : ins m_M_write 10 = some (.aload_n 0, 1, 0, 0, 11) := rfl
theorem i_M_write_11 : ins m_M_write 11 = some (.dup, 1, 0, 0, 12) := rfl
theorem i_M_write_12 : ins m_M_write 12 = some (.getfield 417, 3, 1181, 0, 15) := rfl
theorem i_M_write_15 : ins m_M_write 15 = some (.iconst 1, 1, 0, 0, 16) := rfl
theorem i_M_write_16 : ins m_M_write 16 = some (.iadd, 1, 0, 0, 17) := rfl
theorem i_M_write_17 : ins m_M_write 17 = some (.putfield 417, 3, 1181, 0, 20) := rfl
theorem i_M_write_20 : ins m_M_write 20 = some (.return_, 1, 0, 0, 21) := rfl
theorem i_M_writes_0 : ins m_M_writes 0 = some (.aload_n 0, 1, 0, 0, 1) := rfl
theorem i_M_writes_1 : ins m_M_writes 1 = some (.getfield 420, 3, 1182, 0, 4) := rfl
theorem i_M_writes_4 : ins m_M_writes 4 = some (.istore_n 1, 1, 0, 0, 5) := rfl
theorem i_M_writes_5 : ins m_M_writes 5 = some (.aload_n 0, 1, 0, 0, 6) := rfl
theorem i_M_writes_6 : ins m_M_writes 6 = some (.dup, 1, 0, 0, 7) := rfl
theorem i_M_writes_7 : ins m_M_writes 7 = some (.getfield 420, 3, 1182, 0, 10) := rfl
theorem i_M_writes_10 : ins m_M_writes 10 = some (.iconst 1, 1, 0, 0, 11) := rfl
theorem i_M_writes_11 : ins m_M_writes 11 = some (.iadd, 1, 0, 0, 12) := rfl
theorem i_M_writes_12 : ins m_M_writes 12 = some (.putfield 420, 3, 1182, 0, 15) := rfl
theorem i_M_writes_15 : ins m_M_writes 15 = some (.aload_n 0, 1, 0, 0, 16) := rfl
theorem i_M_writes_16 : ins m_M_writes 16 = some (.getfield 131, 3, 1176, 0, 19) := rfl
theorem i_M_writes_19 : ins m_M_writes 19 = some (.iload_n 1, 1, 0, 0, 20) := rfl
theorem i_M_writes_20 : ins m_M_writes 20 = some (.iaload, 1, 0, 0, 21) := rfl
theorem i_M_writes_21 : ins m_M_writes 21 = some (.ifCond .ne 61, 3, 82, 0, 24) := rfl
theorem i_M_writes_24 : ins m_M_writes 24 = some (.aload_n 0, 1, 0, 0, 25) := rfl
theorem i_M_writes_25 : ins m_M_writes 25 = some (.getfield 134, 3, 1177, 0, 28) := rfl
theorem i_M_writes_28 : ins m_M_writes 28 = some (.iload_n 1, 1, 0, 0, 29) := rfl
theorem i_M_writes_29 : ins m_M_writes 29 = some (.iaload, 1, 0, 0, 30) := rfl
theorem i_M_writes_30 : ins m_M_writes 30 = some (.istore_n 2, 1, 0, 0, 31) := rfl
theorem i_M_writes_31 : ins m_M_writes 31 = some (.iload_n 2, 1, 0, 0, 32) := rfl
theorem i_M_writes_32 : ins m_M_writes 32 = some (.bipush 99, 2, 0, 0, 34) := rfl
theorem i_M_writes_34 : ins m_M_writes 34 = some (.if_icmp .le 14, 3, 48, 0, 37) := rfl
theorem i_M_writes_37 : ins m_M_writes 37 = some (.aload_n 0, 1, 0, 0, 38) := rfl
theorem i_M_writes_38 : ins m_M_writes 38 = some (.bipush 48, 2, 0, 0, 40) := rfl
theorem i_M_writes_40 : ins m_M_writes 40 = some (.iload_n 2, 1, 0, 0, 41) := rfl
theorem i_M_writes_41 : ins m_M_writes 41 = some (.bipush 100, 2, 0, 0, 43) := rfl
theorem i_M_writes_43 : ins m_M_writes 43 = some (.idiv, 1, 0, 0, 44) := rfl
theorem i_M_writes_44 : ins m_M_writes 44 = some (.iadd, 1, 0, 0, 45) := rfl
theorem i_M_writes_45 : ins m_M_writes 45 = some (.invokevirtual 429, 3, 166, 1, 48) := rfl
theorem i_M_writes_48 : ins m_M_writes 48 = some (.iload_n 2, 1, 0, 0, 49) := rfl
theorem i_M_writes_49 : ins m_M_writes 49 = some (.bipush 9, 2, 0, 0, 51) := rfl
theorem i_M_writes_51 : ins m_M_writes 51 = some (.if_icmp .le 17, 3, 68, 0, 54) := rfl
theorem i_M_writes_54 : ins m_M_writes 54 = some (.aload_n 0, 1, 0, 0, 55) := rfl
theorem i_M_writes_55 : ins m_M_writes 55 = some (.bipush 48, 2, 0, 0, 57) := rfl
theorem i_M_writes_57 : ins m_M_writes 57 = some (.iload_n 2, 1, 0, 0, 58) := rfl
theorem i_M_writes_58 : ins m_M_writes 58 = some (.bipush 10, 2, 0, 0, 60) := rfl
theorem i_M_writes_60 : ins m_M_writes 60 = some (.idiv, 1, 0, 0, 61) := rfl
theorem i_M_writes_61 : ins m_M_writes 61 = some (.bipush 10, 2, 0, 0, 63) := rfl
theorem i_M_writes_63 : ins m_M_writes 63 = some (.irem, 1, 0, 0, 64) := rfl
theorem i_M_writes_64 : ins m_M_writes 64 = some (.iadd, 1, 0, 0, 65) := rfl
theorem i_M_writes_65 : ins m_M_writes 65 = some (.invokevirtual 429, 3, 166, 1, 68) := rfl
theorem i_M_writes_68 : ins m_M_writes 68 = some (.aload_n 0, 1, 0, 0, 69) := rfl
theorem i_M_writes_69 : ins m_M_writes 69 = some (.bipush 48, 2, 0, 0, 71) := rfl
theorem i_M_writes_71 : ins m_M_writes 71 = some (.iload_n 2, 1, 0, 0, 72) := rfl
theorem i_M_writes_72 : ins m_M_writes 72 = some (.bipush 10, 2, 0, 0, 74) := rfl
theorem i_M_writes_74 : ins m_M_writes 74 = some (.irem, 1, 0, 0, 75) := rfl
theorem i_M_writes_75 : ins m_M_writes 75 = some (.iadd, 1, 0, 0, 76) := rfl
theorem i_M_writes_76 : ins m_M_writes 76 = some (.invokevirtual 429, 3, 166, 1, 79) := rfl
theorem i_M_writes_79 : ins m_M_writes 79 = some (.goto 104, 3, 183, 0, 82) := rfl
theorem i_M_writes_82 : ins m_M_writes 82 = some (.aload_n 0, 1, 0, 0, 83) := rfl
theorem i_M_writes_83 : ins m_M_writes 83 = some (.getfield 131, 3, 1176, 0, 86) := rfl
theorem i_M_writes_86 : ins m_M_writes 86 = some (.iload_n 1, 1, 0, 0, 87) := rfl
theorem i_M_writes_87 : ins m_M_writes 87 = some (.iaload, 1, 0, 0, 88) := rfl
theorem i_M_writes_88 : ins m_M_writes 88 = some (.iconst 1, 1, 0, 0, 89) := rfl
theorem i_M_writes_89 : ins m_M_writes 89 = some (.if_icmp .ne 50, 3, 139, 0, 92) := rfl
theorem i_M_writes_92 : ins m_M_writes 92 = some (.aload_n 0, 1, 0, 0, 93) := rfl
theorem i_M_writes_93 : ins m_M_writes 93 = some (.bipush 91, 2, 0, 0, 95) := rfl
theorem i_M_writes_95 : ins m_M_writes 95 = some (.invokevirtual 429, 3, 166, 1, 98) := rfl
theorem i_M_writes_98 : ins m_M_writes 98 = some (.iconst 0, 1, 0, 0, 99) := rfl
theorem i_M_writes_99 : ins m_M_writes 99 = some (.istore_n 2, 1, 0, 0, 100) := rfl
theorem i_M_writes_100 : ins m_M_writes 100 = some (.iload_n 2, 1, 0, 0, 101) := rfl
theorem i_M_writes_101 : ins m_M_writes 101 = some (.aload_n 0, 1, 0, 0, 102) := rfl
theorem i_M_writes_102 : ins m_M_writes 102 = some (.getfield 137, 3, 1178, 0, 105) := rfl
theorem i_M_writes_105 : ins m_M_writes 105 = some (.iload_n 1, 1, 0, 0, 106) := rfl
theorem i_M_writes_106 : ins m_M_writes 106 = some (.iaload, 1, 0, 0, 107) := rfl
theorem i_M_writes_107 : ins m_M_writes 107 = some (.if_icmp .ge 23, 3, 130, 0, 110) := rfl
theorem i_M_writes_110 : ins m_M_writes 110 = some (.iload_n 2, 1, 0, 0, 111) := rfl
theorem i_M_writes_111 : ins m_M_writes 111 = some (.ifCond .le 9, 3, 120, 0, 114) := rfl
theorem i_M_writes_114 : ins m_M_writes 114 = some (.aload_n 0, 1, 0, 0, 115) := rfl
theorem i_M_writes_115 : ins m_M_writes 115 = some (.bipush 44, 2, 0, 0, 117) := rfl
theorem i_M_writes_117 : ins m_M_writes 117 = some (.invokevirtual 429, 3, 166, 1, 120) := rfl
theorem i_M_writes_120 : ins m_M_writes 120 = some (.aload_n 0, 1, 0, 0, 121) := rfl
theorem i_M_writes_121 : ins m_M_writes 121 = some (.invokevirtual 423, 3, 167, 0, 124) := rfl
theorem i_M_writes_124 : ins m_M_writes 124 = some (.iinc 2 1, 3, 0, 0, 127) := rfl
theorem i_M_writes_127 : ins m_M_writes 127 = some (.goto (-27), 3, 100, 0, 130) := rfl
theorem i_M_writes_130 : ins m_M_writes 130 = some (.aload_n 0, 1, 0, 0, 131) := rfl
theorem i_M_writes_131 : ins m_M_writes 131 = some (.bipush 93, 2, 0, 0, 133) := rfl
theorem i_M_writes_133 : ins m_M_writes 133 = some (.invokevirtual 429, 3, 166, 1, 136) := rfl
theorem i_M_writes_136 : ins m_M_writes 136 = some (.goto 47, 3, 183, 0, 139) := rfl
theorem i_M_writes_139 : ins m_M_writes 139 = some (.aload_n 0, 1, 0, 0, 140) := rfl
theorem i_M_writes_140 : ins m_M_writes 140 = some (.bipush 40, 2, 0, 0, 142) := rfl
theorem i_M_writes_142 : ins m_M_writes 142 = some (.invokevirtual 429, 3, 166, 1, 145) := rfl
theorem i_M_writes_145 : ins m_M_writes 145 = some (.aload_n 0, 1, 0, 0, 146) := rfl
theorem i_M_writes_146 : ins m_M_writes 146 = some (.invokevirtual 423, 3, 167, 0, 149) := rfl
theorem i_M_writes_149 : ins m_M_writes 149 = some (.aload_n 0, 1, 0, 0, 150) := rfl
theorem i_M_writes_150 : ins m_M_writes 150 = some (.aload_n 0, 1, 0, 0, 151) := rfl
theorem i_M_writes_151 : ins m_M_writes 151 = some (.getfield 134, 3, 1177, 0, 154) := rfl
theorem i_M_writes_154 : ins m_M_writes 154 = some (.iload_n 1, 1, 0, 0, 155) := rfl
theorem i_M_writes_155 : ins m_M_writes 155 = some (.iaload, 1, 0, 0, 156) := rfl
theorem i_M_writes_156 : ins m_M_writes 156 = some (.ifCond .ne 8, 3, 164, 0, 159) := rfl
theorem i_M_writes_159 : ins m_M_writes 159 = some (.bipush 63, 2, 0, 0, 161) := rfl
theorem i_M_writes_161 : ins m_M_writes 161 = some (.goto 9, 3, 170, 0, 164) := rfl
theorem i_M_writes_164 : ins m_M_writes 164 = some (.aload_n 0, 1, 0, 0, 165) := rfl
theorem i_M_writes_165 : ins m_M_writes 165 = some (.getfield 134, 3, 1177, 0, 168) := rfl
theorem i_M_writes_168 : ins m_M_writes 168 = some (.iload_n 1, 1, 0, 0, 169) := rfl
theorem i_M_writes_169 : ins m_M_writes 169 = some (.iaload, 1, 0, 0, 170) := rfl
theorem i_M_writes_170 : ins m_M_writes 170 = some (.invokevirtual 429, 3, 166, 1, 173) := rfl
theorem i_M_writes_173 : ins m_M_writes 173 = some (.aload_n 0, 1, 0, 0, 174) := rfl
theorem i_M_writes_174 : ins m_M_writes 174 = some (.invokevirtual 423, 3, 167, 0, 177) := rfl
theorem i_M_writes_177 : ins m_M_writes 177 = some (.aload_n 0, 1, 0, 0, 178) := rfl
theorem i_M_writes_178 : ins m_M_writes 178 = some (.bipush 41, 2, 0, 0, 180) := rfl
theorem i_M_writes_180 : ins m_M_writes 180 = some (.invokevirtual 429, 3, 166, 1, 183) := rfl
theorem i_M_writes_183 : ins m_M_writes 183 = some (.return_, 1, 0, 0, 184) := rfl
theorem i_M_text_0 : ins m_M_text 0 = some (.aload_n 0, 1, 0, 0, 1) := rfl
theorem i_M_text_1 : ins m_M_text 1 = some (.getfield 158, 3, 1169, 0, 4) := rfl
theorem i_M_text_4 : ins m_M_text 4 = some (.ifCond .ne 6, 3, 10, 0, 7) := rfl
theorem i_M_text_7 : ins m_M_text 7 = some (.bipush (-3), 2, 0, 0, 9) := rfl
theorem i_M_text_9 : ins m_M_text 9 = some (.ireturn, 1, 0, 0, 10) := rfl
theorem i_M_text_10 : ins m_M_text 10 = some (.iload_n 1, 1, 0, 0, 11) := rfl
theorem i_M_text_11 : ins m_M_text 11 = some (.ifCond .lt 11, 3, 22, 0, 14) := rfl
theorem i_M_text_14 : ins m_M_text 14 = some (.iload_n 1, 1, 0, 0, 15) := rfl
theorem i_M_text_15 : ins m_M_text 15 = some (.aload_n 0, 1, 0, 0, 16) := rfl
theorem i_M_text_16 : ins m_M_text 16 = some (.getfield 417, 3, 1181, 0, 19) := rfl
theorem i_M_text_19 : ins m_M_text 19 = some (.if_icmp .lt 7, 3, 26, 0, 22) := rfl
theorem i_M_text_22 : ins m_M_text 22 = some (.iconst (-1), 1, 0, 0, 23) := rfl
theorem i_M_text_23 : ins m_M_text 23 = some (.goto 9, 3, 32, 0, 26) := rfl
theorem i_M_text_26 : ins m_M_text 26 = some (.aload_n 0, 1, 0, 0, 27) := rfl
theorem i_M_text_27 : ins m_M_text 27 = some (.getfield 143, 3, 1180, 0, 30) := rfl
theorem i_M_text_30 : ins m_M_text 30 = some (.iload_n 1, 1, 0, 0, 31) := rfl
theorem i_M_text_31 : ins m_M_text 31 = some (.iaload, 1, 0, 0, 32) := rfl
theorem i_M_text_32 : ins m_M_text 32 = some (.ireturn, 1, 0, 0, 33) := rfl
theorem i_M_rule_0 : ins m_M_rule 0 = some (.iload_n 1, 1, 0, 0, 1) := rfl
theorem i_M_rule_1 : ins m_M_rule 1 = some (.ifCond .lt 18, 3, 19, 0, 4) := rfl
theorem i_M_rule_4 : ins m_M_rule 4 = some (.iload_n 1, 1, 0, 0, 5) := rfl
theorem i_M_rule_5 : ins m_M_rule 5 = some (.bipush 7, 2, 0, 0, 7) := rfl
theorem i_M_rule_7 : ins m_M_rule 7 = some (.if_icmp .gt 12, 3, 19, 0, 10) := rfl
theorem i_M_rule_10 : ins m_M_rule 10 = some (.iload_n 2, 1, 0, 0, 11) := rfl
theorem i_M_rule_11 : ins m_M_rule 11 = some (.ifCond .lt 8, 3, 19, 0, 14) := rfl
theorem i_M_rule_14 : ins m_M_rule 14 = some (.iload_n 2, 1, 0, 0, 15) := rfl
theorem i_M_rule_15 : ins m_M_rule 15 = some (.iconst 3, 1, 0, 0, 16) := rfl
theorem i_M_rule_16 : ins m_M_rule 16 = some (.if_icmp .le 6, 3, 22, 0, 19) := rfl
theorem i_M_rule_19 : ins m_M_rule 19 = some (.bipush (-2), 2, 0, 0, 21) := rfl
theorem i_M_rule_21 : ins m_M_rule 21 = some (.ireturn, 1, 0, 0, 22) := rfl
theorem i_M_rule_22 : ins m_M_rule 22 = some (.iload_n 2, 1, 0, 0, 23) := rfl
theorem i_M_rule_23 : ins m_M_rule 23 = some (.ifCond .ne 19, 3, 42, 0, 26) := rfl
theorem i_M_rule_26 : ins m_M_rule 26 = some (.aload_n 0, 1, 0, 0, 27) := rfl
theorem i_M_rule_27 : ins m_M_rule 27 = some (.getfield 19, 3, 1107, 0, 30) := rfl
theorem i_M_rule_30 : ins m_M_rule 30 = some (.iload_n 1, 1, 0, 0, 31) := rfl
theorem i_M_rule_31 : ins m_M_rule 31 = some (.iaload, 1, 0, 0, 32) := rfl
theorem i_M_rule_32 : ins m_M_rule 32 = some (.iconst (-1), 1, 0, 0, 33) := rfl
theorem i_M_rule_33 : ins m_M_rule 33 = some (.if_icmp .eq 7, 3, 40, 0, 36) := rfl
theorem i_M_rule_36 : ins m_M_rule 36 = some (.iconst 1, 1, 0, 0, 37) := rfl
theorem i_M_rule_37 : ins m_M_rule 37 = some (.goto 4, 3, 41, 0, 40) := rfl
theorem i_M_rule_40 : ins m_M_rule 40 = some (.iconst 0, 1, 0, 0, 41) := rfl
theorem i_M_rule_41 : ins m_M_rule 41 = some (.ireturn, 1, 0, 0, 42) := rfl
theorem i_M_rule_42 : ins m_M_rule 42 = some (.aload_n 0, 1, 0, 0, 43) := rfl
theorem i_M_rule_43 : ins m_M_rule 43 = some (.getfield 19, 3, 1107, 0, 46) := rfl
theorem i_M_rule_46 : ins m_M_rule 46 = some (.iload_n 1, 1, 0, 0, 47) := rfl
theorem i_M_rule_47 : ins m_M_rule 47 = some (.iaload, 1, 0, 0, 48) := rfl
theorem i_M_rule_48 : ins m_M_rule 48 = some (.iconst (-1), 1, 0, 0, 49) := rfl
theorem i_M_rule_49 : ins m_M_rule 49 = some (.if_icmp .ne 5, 3, 54, 0, 52) := rfl
theorem i_M_rule_52 : ins m_M_rule 52 = some (.iconst (-1), 1, 0, 0, 53) := rfl
theorem i_M_rule_53 : ins m_M_rule 53 = some (.ireturn, 1, 0, 0, 54) := rfl
theorem i_M_rule_54 : ins m_M_rule 54 = some (.iload_n 2, 1, 0, 0, 55) := rfl
theorem i_M_rule_55 : ins m_M_rule 55 = some (.iconst 1, 1, 0, 0, 56) := rfl
theorem i_M_rule_56 : ins m_M_rule 56 = some (.if_icmp .ne 18, 3, 74, 0, 59) := rfl
theorem i_M_rule_59 : ins m_M_rule 59 = some (.aload_n 0, 1, 0, 0, 60) := rfl
theorem i_M_rule_60 : ins m_M_rule 60 = some (.getfield 67, 3, 1123, 0, 63) := rfl
theorem i_M_rule_63 : ins m_M_rule 63 = some (.iload_n 1, 1, 0, 0, 64) := rfl
theorem i_M_rule_64 : ins m_M_rule 64 = some (.baload, 1, 0, 0, 65) := rfl
theorem i_M_rule_65 : ins m_M_rule 65 = some (.ifCond .eq 7, 3, 72, 0, 68) := rfl
theorem i_M_rule_68 : ins m_M_rule 68 = some (.iconst 1, 1, 0, 0, 69) := rfl
theorem i_M_rule_69 : ins m_M_rule 69 = some (.goto 4, 3, 73, 0, 72) := rfl
theorem i_M_rule_72 : ins m_M_rule 72 = some (.iconst 0, 1, 0, 0, 73) := rfl
theorem i_M_rule_73 : ins m_M_rule 73 = some (.ireturn, 1, 0, 0, 74) := rfl
theorem i_M_rule_74 : ins m_M_rule 74 = some (.iload_n 2, 1, 0, 0, 75) := rfl
theorem i_M_rule_75 : ins m_M_rule 75 = some (.iconst 2, 1, 0, 0, 76) := rfl
theorem i_M_rule_76 : ins m_M_rule 76 = some (.if_icmp .ne 14, 3, 90, 0, 79) := rfl
theorem i_M_rule_79 : ins m_M_rule 79 = some (.aload_n 0, 1, 0, 0, 80) := rfl
theorem i_M_rule_80 : ins m_M_rule 80 = some (.getfield 71, 3, 1124, 0, 83) := rfl
theorem i_M_rule_83 : ins m_M_rule 83 = some (.iload_n 1, 1, 0, 0, 84) := rfl
theorem i_M_rule_84 : ins m_M_rule 84 = some (.iaload, 1, 0, 0, 85) := rfl
theorem i_M_rule_85 : ins m_M_rule 85 = some (.iload_n 1, 1, 0, 0, 86) := rfl
theorem i_M_rule_86 : ins m_M_rule 86 = some (.ishr, 1, 0, 0, 87) := rfl
theorem i_M_rule_87 : ins m_M_rule 87 = some (.iconst 1, 1, 0, 0, 88) := rfl
theorem i_M_rule_88 : ins m_M_rule 88 = some (.iand, 1, 0, 0, 89) := rfl
theorem i_M_rule_89 : ins m_M_rule 89 = some (.ireturn, 1, 0, 0, 90) := rfl
theorem i_M_rule_90 : ins m_M_rule 90 = some (.iconst 0, 1, 0, 0, 91) := rfl
theorem i_M_rule_91 : ins m_M_rule 91 = some (.istore_n 3, 1, 0, 0, 92) := rfl
theorem i_M_rule_92 : ins m_M_rule 92 = some (.iconst 0, 1, 0, 0, 93) := rfl
theorem i_M_rule_93 : ins m_M_rule 93 = some (.istore 4, 2, 0, 0, 95) := rfl
theorem i_M_rule_95 : ins m_M_rule 95 = some (.iload 4, 2, 0, 0, 97) := rfl
theorem i_M_rule_97 : ins m_M_rule 97 = some (.aload_n 0, 1, 0, 0, 98) := rfl
theorem i_M_rule_98 : ins m_M_rule 98 = some (.getfield 278, 3, 1106, 0, 101) := rfl
theorem i_M_rule_101 : ins m_M_rule 101 = some (.if_icmp .ge 28, 3, 129, 0, 104) := rfl
theorem i_M_rule_104 : ins m_M_rule 104 = some (.iload_n 3, 1, 0, 0, 105) := rfl
theorem i_M_rule_105 : ins m_M_rule 105 = some (.aload_n 0, 1, 0, 0, 106) := rfl
theorem i_M_rule_106 : ins m_M_rule 106 = some (.getfield 64, 3, 1122, 0, 109) := rfl
theorem i_M_rule_109 : ins m_M_rule 109 = some (.iload 4, 2, 0, 0, 111) := rfl
theorem i_M_rule_111 : ins m_M_rule 111 = some (.iaload, 1, 0, 0, 112) := rfl
theorem i_M_rule_112 : ins m_M_rule 112 = some (.iload_n 1, 1, 0, 0, 113) := rfl
theorem i_M_rule_113 : ins m_M_rule 113 = some (.if_icmp .ne 7, 3, 120, 0, 116) := rfl
theorem i_M_rule_116 : ins m_M_rule 116 = some (.iconst 1, 1, 0, 0, 117) := rfl
theorem i_M_rule_117 : ins m_M_rule 117 = some (.goto 4, 3, 121, 0, 120) := rfl
theorem i_M_rule_120 : ins m_M_rule 120 = some (.iconst 0, 1, 0, 0, 121) := rfl
theorem i_M_rule_121 : ins m_M_rule 121 = some (.iadd, 1, 0, 0, 122) := rfl
theorem i_M_rule_122 : ins m_M_rule 122 = some (.istore_n 3, 1, 0, 0, 123) := rfl
theorem i_M_rule_123 : ins m_M_rule 123 = some (.iinc 4 1, 3, 0, 0, 126) := rfl
theorem i_M_rule_126 : ins m_M_rule 126 = some (.goto (-31), 3, 95, 0, 129) := rfl
theorem i_M_rule_129 : ins m_M_rule 129 = some (.iload_n 3, 1, 0, 0, 130) := rfl
theorem i_M_rule_130 : ins m_M_rule 130 = some (.ireturn, 1, 0, 0, 131) := rfl
theorem i_M_atom__0 : ins m_M_atom_ 0 = some (.iload_n 2, 1, 0, 0, 1) := rfl
theorem i_M_atom__1 : ins m_M_atom_ 1 = some (.ifCond .lt 8, 3, 9, 0, 4) := rfl
theorem i_M_atom__4 : ins m_M_atom_ 4 = some (.iload_n 2, 1, 0, 0, 5) := rfl
theorem i_M_atom__5 : ins m_M_atom_ 5 = some (.iconst 3, 1, 0, 0, 6) := rfl
theorem i_M_atom__6 : ins m_M_atom_ 6 = some (.if_icmp .le 6, 3, 12, 0, 9) := rfl
theorem i_M_atom__9 : ins m_M_atom_ 9 = some (.bipush (-2), 2, 0, 0, 11) := rfl
theorem i_M_atom__11 : ins m_M_atom_ 11 = some (.ireturn, 1, 0, 0, 12) := rfl
theorem i_M_atom__12 : ins m_M_atom_ 12 = some (.iload_n 1, 1, 0, 0, 13) := rfl
theorem i_M_atom__13 : ins m_M_atom_ 13 = some (.ifCond .lt 11, 3, 24, 0, 16) := rfl
theorem i_M_atom__16 : ins m_M_atom_ 16 = some (.iload_n 1, 1, 0, 0, 17) := rfl
theorem i_M_atom__17 : ins m_M_atom_ 17 = some (.aload_n 0, 1, 0, 0, 18) := rfl
theorem i_M_atom__18 : ins m_M_atom_ 18 = some (.getfield 278, 3, 1106, 0, 21) := rfl
theorem i_M_atom__21 : ins m_M_atom_ 21 = some (.if_icmp .lt 5, 3, 26, 0, 24) := rfl
theorem i_M_atom__24 : ins m_M_atom_ 24 = some (.iconst (-1), 1, 0, 0, 25) := rfl
theorem i_M_atom__25 : ins m_M_atom_ 25 = some (.ireturn, 1, 0, 0, 26) := rfl
theorem i_M_atom__26 : ins m_M_atom_ 26 = some (.iload_n 2, 1, 0, 0, 27) := rfl
theorem i_M_atom__27 : ins m_M_atom_ 27 = some (.ifCond .ne 12, 3, 39, 0, 30) := rfl
theorem i_M_atom__30 : ins m_M_atom_ 30 = some (.aload_n 0, 1, 0, 0, 31) := rfl
theorem i_M_atom__31 : ins m_M_atom_ 31 = some (.getfield 52, 3, 1118, 0, 34) := rfl
theorem i_M_atom__34 : ins m_M_atom_ 34 = some (.iload_n 1, 1, 0, 0, 35) := rfl
theorem i_M_atom__35 : ins m_M_atom_ 35 = some (.iaload, 1, 0, 0, 36) := rfl
theorem i_M_atom__36 : ins m_M_atom_ 36 = some (.goto 37, 3, 73, 0, 39) := rfl
theorem i_M_atom__39 : ins m_M_atom_ 39 = some (.iload_n 2, 1, 0, 0, 40) := rfl
theorem i_M_atom__40 : ins m_M_atom_ 40 = some (.iconst 1, 1, 0, 0, 41) := rfl
theorem i_M_atom__41 : ins m_M_atom_ 41 = some (.if_icmp .ne 12, 3, 53, 0, 44) := rfl
theorem i_M_atom__44 : ins m_M_atom_ 44 = some (.aload_n 0, 1, 0, 0, 45) := rfl
theorem i_M_atom__45 : ins m_M_atom_ 45 = some (.getfield 55, 3, 1119, 0, 48) := rfl
theorem i_M_atom__48 : ins m_M_atom_ 48 = some (.iload_n 1, 1, 0, 0, 49) := rfl
theorem i_M_atom__49 : ins m_M_atom_ 49 = some (.iaload, 1, 0, 0, 50) := rfl
theorem i_M_atom__50 : ins m_M_atom_ 50 = some (.goto 23, 3, 73, 0, 53) := rfl
theorem i_M_atom__53 : ins m_M_atom_ 53 = some (.iload_n 2, 1, 0, 0, 54) := rfl
theorem i_M_atom__54 : ins m_M_atom_ 54 = some (.iconst 2, 1, 0, 0, 55) := rfl
theorem i_M_atom__55 : ins m_M_atom_ 55 = some (.if_icmp .ne 12, 3, 67, 0, 58) := rfl
theorem i_M_atom__58 : ins m_M_atom_ 58 = some (.aload_n 0, 1, 0, 0, 59) := rfl
theorem i_M_atom__59 : ins m_M_atom_ 59 = some (.getfield 58, 3, 1120, 0, 62) := rfl
theorem i_M_atom__62 : ins m_M_atom_ 62 = some (.iload_n 1, 1, 0, 0, 63) := rfl
theorem i_M_atom__63 : ins m_M_atom_ 63 = some (.iaload, 1, 0, 0, 64) := rfl
theorem i_M_atom__64 : ins m_M_atom_ 64 = some (.goto 9, 3, 73, 0, 67) := rfl
theorem i_M_atom__67 : ins m_M_atom_ 67 = some (.aload_n 0, 1, 0, 0, 68) := rfl
theorem i_M_atom__68 : ins m_M_atom_ 68 = some (.getfield 61, 3, 1121, 0, 71) := rfl
theorem i_M_atom__71 : ins m_M_atom_ 71 = some (.iload_n 1, 1, 0, 0, 72) := rfl
theorem i_M_atom__72 : ins m_M_atom_ 72 = some (.iaload, 1, 0, 0, 73) := rfl
theorem i_M_atom__73 : ins m_M_atom_ 73 = some (.ireturn, 1, 0, 0, 74) := rfl
theorem i_M_drawn_0 : ins m_M_drawn 0 = some (.aload_n 0, 1, 0, 0, 1) := rfl
theorem i_M_drawn_1 : ins m_M_drawn 1 = some (.iload_n 1, 1, 0, 0, 2) := rfl
theorem i_M_drawn_2 : ins m_M_drawn 2 = some (.invokevirtual 396, 3, 159, 1, 5) := rfl
theorem i_M_drawn_5 : ins m_M_drawn 5 = some (.ifCond .eq 27, 3, 32, 0, 8) := rfl
theorem i_M_drawn_8 : ins m_M_drawn 8 = some (.iload_n 3, 1, 0, 0, 9) := rfl
theorem i_M_drawn_9 : ins m_M_drawn 9 = some (.iconst 1, 1, 0, 0, 10) := rfl
theorem i_M_drawn_10 : ins m_M_drawn 10 = some (.if_icmp .lt 22, 3, 32, 0, 13) := rfl
theorem i_M_drawn_13 : ins m_M_drawn 13 = some (.iload_n 3, 1, 0, 0, 14) := rfl
theorem i_M_drawn_14 : ins m_M_drawn 14 = some (.bipush 20, 2, 0, 0, 16) := rfl
theorem i_M_drawn_16 : ins m_M_drawn 16 = some (.if_icmp .gt 16, 3, 32, 0, 19) := rfl
theorem i_M_drawn_19 : ins m_M_drawn 19 = some (.iload 4, 2, 0, 0, 21) := rfl
theorem i_M_drawn_21 : ins m_M_drawn 21 = some (.iconst 1, 1, 0, 0, 22) := rfl
theorem i_M_drawn_22 : ins m_M_drawn 22 = some (.if_icmp .lt 10, 3, 32, 0, 25) := rfl
theorem i_M_drawn_25 : ins m_M_drawn 25 = some (.iload 4, 2, 0, 0, 27) := rfl
theorem i_M_drawn_27 : ins m_M_drawn 27 = some (.bipush 20, 2, 0, 0, 29) := rfl
theorem i_M_drawn_29 : ins m_M_drawn 29 = some (.if_icmp .le 6, 3, 35, 0, 32) := rfl
theorem i_M_drawn_32 : ins m_M_drawn 32 = some (.bipush (-2), 2, 0, 0, 34) := rfl
theorem i_M_drawn_34 : ins m_M_drawn 34 = some (.ireturn, 1, 0, 0, 35) := rfl
theorem i_M_drawn_35 : ins m_M_drawn 35 = some (.iconst 0, 1, 0, 0, 36) := rfl
theorem i_M_drawn_36 : ins m_M_drawn 36 = some (.istore 5, 2, 0, 0, 38) := rfl
theorem i_M_drawn_38 : ins m_M_drawn 38 = some (.iconst 0, 1, 0, 0, 39) := rfl
theorem i_M_drawn_39 : ins m_M_drawn 39 = some (.istore 6, 2, 0, 0, 41) := rfl
theorem i_M_drawn_41 : ins m_M_drawn 41 = some (.iload 6, 2, 0, 0, 43) := rfl
theorem i_M_drawn_43 : ins m_M_drawn 43 = some (.aload_n 0, 1, 0, 0, 44) := rfl
theorem i_M_drawn_44 : ins m_M_drawn 44 = some (.getfield 278, 3, 1106, 0, 47) := rfl
theorem i_M_drawn_47 : ins m_M_drawn 47 = some (.if_icmp .ge 29, 3, 76, 0, 50) := rfl
theorem i_M_drawn_50 : ins m_M_drawn 50 = some (.iload 5, 2, 0, 0, 52) := rfl
theorem i_M_drawn_52 : ins m_M_drawn 52 = some (.aload_n 0, 1, 0, 0, 53) := rfl
theorem i_M_drawn_53 : ins m_M_drawn 53 = some (.getfield 55, 3, 1119, 0, 56) := rfl
theorem i_M_drawn_56 : ins m_M_drawn 56 = some (.iload 6, 2, 0, 0, 58) := rfl
theorem i_M_drawn_58 : ins m_M_drawn 58 = some (.iaload, 1, 0, 0, 59) := rfl
theorem i_M_drawn_59 : ins m_M_drawn 59 = some (.ifCond .ne 7, 3, 66, 0, 62) := rfl
theorem i_M_drawn_62 : ins m_M_drawn 62 = some (.iconst 1, 1, 0, 0, 63) := rfl
theorem i_M_drawn_63 : ins m_M_drawn 63 = some (.goto 4, 3, 67, 0, 66) := rfl
theorem i_M_drawn_66 : ins m_M_drawn 66 = some (.iconst 0, 1, 0, 0, 67) := rfl
theorem i_M_drawn_67 : ins m_M_drawn 67 = some (.iadd, 1, 0, 0, 68) := rfl
theorem i_M_drawn_68 : ins m_M_drawn 68 = some (.istore 5, 2, 0, 0, 70) := rfl
theorem i_M_drawn_70 : ins m_M_drawn 70 = some (.iinc 6 1, 3, 0, 0, 73) := rfl
theorem i_M_drawn_73 : ins m_M_drawn 73 = some (.goto (-32), 3, 41, 0, 76) := rfl
theorem i_M_drawn_76 : ins m_M_drawn 76 = some (.iload_n 2, 1, 0, 0, 77) := rfl
theorem i_M_drawn_77 : ins m_M_drawn 77 = some (.istore 6, 2, 0, 0, 79) := rfl
theorem i_M_drawn_79 : ins m_M_drawn 79 = some (.iconst 0, 1, 0, 0, 80) := rfl
theorem i_M_drawn_80 : ins m_M_drawn 80 = some (.istore 7, 2, 0, 0, 82) := rfl
theorem i_M_drawn_82 : ins m_M_drawn 82 = some (.aload_n 0, 1, 0, 0, 83) := rfl
theorem i_M_drawn_83 : ins m_M_drawn 83 = some (.aload_n 0, 1, 0, 0, 84) := rfl
theorem i_M_drawn_84 : ins m_M_drawn 84 = some (.getfield 16, 3, 1102, 0, 87) := rfl
theorem i_M_drawn_87 : ins m_M_drawn 87 = some (.putfield 80, 3, 1140, 0, 90) := rfl
theorem i_M_drawn_90 : ins m_M_drawn 90 = some (.aload_n 0, 1, 0, 0, 91) := rfl
theorem i_M_drawn_91 : ins m_M_drawn 91 = some (.iload_n 3, 1, 0, 0, 92) := rfl
theorem i_M_drawn_92 : ins m_M_drawn 92 = some (.putfield 349, 3, 1141, 0, 95) := rfl
theorem i_M_drawn_95 : ins m_M_drawn 95 = some (.iconst 0, 1, 0, 0, 96) := rfl
theorem i_M_drawn_96 : ins m_M_drawn 96 = some (.istore 8, 2, 0, 0, 98) := rfl
theorem i_M_drawn_98 : ins m_M_drawn 98 = some (.iload 8, 2, 0, 0, 100) := rfl
theorem i_M_drawn_100 : ins m_M_drawn 100 = some (.iload 4, 2, 0, 0, 102) := rfl
theorem i_M_drawn_102 : ins m_M_drawn 102 = some (.if_icmp .ge 138, 3, 240, 0, 105) := rfl
theorem i_M_drawn_105 : ins m_M_drawn 105 = some (.iconst 0, 1, 0, 0, 106) := rfl
theorem i_M_drawn_106 : ins m_M_drawn 106 = some (.istore 9, 2, 0, 0, 108) := rfl
theorem i_M_drawn_108 : ins m_M_drawn 108 = some (.iload 9, 2, 0, 0, 110) := rfl
theorem i_M_drawn_110 : ins m_M_drawn 110 = some (.iload_n 3, 1, 0, 0, 111) := rfl
theorem i_M_drawn_111 : ins m_M_drawn 111 = some (.if_icmp .ge 110, 3, 221, 0, 114) := rfl
theorem i_M_drawn_114 : ins m_M_drawn 114 = some (.iload 6, 2, 0, 0, 116) := rfl
theorem i_M_drawn_116 : ins m_M_drawn 116 = some (.ldc_w 432, 3, 1103515245, 0, 119) := rfl
theorem i_M_drawn_119 : ins m_M_drawn 119 = some (.imul, 1, 0, 0, 120) := rfl
theorem i_M_drawn_120 : ins m_M_drawn 120 = some (.sipush 12345, 3, 0, 0, 123) := rfl
theorem i_M_drawn_123 : ins m_M_drawn 123 = some (.iadd, 1, 0, 0, 124) := rfl
theorem i_M_drawn_124 : ins m_M_drawn 124 = some (.istore 6, 2, 0, 0, 126) := rfl
theorem i_M_drawn_126 : ins m_M_drawn 126 = some (.iload 6, 2, 0, 0, 128) := rfl
theorem i_M_drawn_128 : ins m_M_drawn 128 = some (.bipush 9, 2, 0, 0, 130) := rfl
theorem i_M_drawn_130 : ins m_M_drawn 130 = some (.iushr, 1, 0, 0, 131) := rfl
theorem i_M_drawn_131 : ins m_M_drawn 131 = some (.iload 5, 2, 0, 0, 133) := rfl
theorem i_M_drawn_133 : ins m_M_drawn 133 = some (.ifCond .ne 8, 3, 141, 0, 136) := rfl
theorem i_M_drawn_136 : ins m_M_drawn 136 = some (.bipush 10, 2, 0, 0, 138) := rfl
theorem i_M_drawn_138 : ins m_M_drawn 138 = some (.goto 5, 3, 143, 0, 141) := rfl
theorem i_M_drawn_141 : ins m_M_drawn 141 = some (.iload 5, 2, 0, 0, 143) := rfl
theorem i_M_drawn_143 : ins m_M_drawn 143 = some (.irem, 1, 0, 0, 144) := rfl
theorem i_M_drawn_144 : ins m_M_drawn 144 = some (.istore 10, 2, 0, 0, 146) := rfl
theorem i_M_drawn_146 : ins m_M_drawn 146 = some (.bipush 48, 2, 0, 0, 148) := rfl
theorem i_M_drawn_148 : ins m_M_drawn 148 = some (.iload 10, 2, 0, 0, 150) := rfl
theorem i_M_drawn_150 : ins m_M_drawn 150 = some (.iadd, 1, 0, 0, 151) := rfl
theorem i_M_drawn_151 : ins m_M_drawn 151 = some (.istore 11, 2, 0, 0, 153) := rfl
theorem i_M_drawn_153 : ins m_M_drawn 153 = some (.iconst 0, 1, 0, 0, 154) := rfl
theorem i_M_drawn_154 : ins m_M_drawn 154 = some (.istore 12, 2, 0, 0, 156) := rfl
theorem i_M_drawn_156 : ins m_M_drawn 156 = some (.iload 12, 2, 0, 0, 158) := rfl
theorem i_M_drawn_158 : ins m_M_drawn 158 = some (.aload_n 0, 1, 0, 0, 159) := rfl
theorem i_M_drawn_159 : ins m_M_drawn 159 = some (.getfield 278, 3, 1106, 0, 162) := rfl
theorem i_M_drawn_162 : ins m_M_drawn 162 = some (.if_icmp .ge 44, 3, 206, 0, 165) := rfl
theorem i_M_drawn_165 : ins m_M_drawn 165 = some (.iload 5, 2, 0, 0, 167) := rfl
theorem i_M_drawn_167 : ins m_M_drawn 167 = some (.ifCond .le 39, 3, 206, 0, 170) := rfl
theorem i_M_drawn_170 : ins m_M_drawn 170 = some (.aload_n 0, 1, 0, 0, 171) := rfl
theorem i_M_drawn_171 : ins m_M_drawn 171 = some (.getfield 55, 3, 1119, 0, 174) := rfl
theorem i_M_drawn_174 : ins m_M_drawn 174 = some (.iload 12, 2, 0, 0, 176) := rfl
theorem i_M_drawn_176 : ins m_M_drawn 176 = some (.iaload, 1, 0, 0, 177) := rfl
theorem i_M_drawn_177 : ins m_M_drawn 177 = some (.ifCond .eq 6, 3, 183, 0, 180) := rfl
theorem i_M_drawn_180 : ins m_M_drawn 180 = some (.goto 20, 3, 200, 0, 183) := rfl
theorem i_M_drawn_183 : ins m_M_drawn 183 = some (.iload 10, 2, 0, 0, 185) := rfl
theorem i_M_drawn_185 : ins m_M_drawn 185 = some (.ifCond .ne 12, 3, 197, 0, 188) := rfl
theorem i_M_drawn_188 : ins m_M_drawn 188 = some (.aload_n 0, 1, 0, 0, 189) := rfl
theorem i_M_drawn_189 : ins m_M_drawn 189 = some (.getfield 58, 3, 1120, 0, 192) := rfl
theorem i_M_drawn_192 : ins m_M_drawn 192 = some (.iload 12, 2, 0, 0, 194) := rfl
theorem i_M_drawn_194 : ins m_M_drawn 194 = some (.iaload, 1, 0, 0, 195) := rfl
theorem i_M_drawn_195 : ins m_M_drawn 195 = some (.istore 11, 2, 0, 0, 197) := rfl
theorem i_M_drawn_197 : ins m_M_drawn 197 = some (.iinc 10 (-1), 3, 0, 0, 200) := rfl
theorem i_M_drawn_200 : ins m_M_drawn 200 = some (.iinc 12 1, 3, 0, 0, 203) := rfl
theorem i_M_drawn_203 : ins m_M_drawn 203 = some (.goto (-47), 3, 156, 0, 206) := rfl
theorem i_M_drawn_206 : ins m_M_drawn 206 = some (.aload_n 0, 1, 0, 0, 207) := rfl
theorem i_M_drawn_207 : ins m_M_drawn 207 = some (.getfield 16, 3, 1102, 0, 210) := rfl
theorem i_M_drawn_210 : ins m_M_drawn 210 = some (.iload 9, 2, 0, 0, 212) := rfl
theorem i_M_drawn_212 : ins m_M_drawn 212 = some (.iload 11, 2, 0, 0, 214) := rfl
theorem i_M_drawn_214 : ins m_M_drawn 214 = some (.iastore, 1, 0, 0, 215) := rfl
theorem i_M_drawn_215 : ins m_M_drawn 215 = some (.iinc 9 1, 3, 0, 0, 218) := rfl
theorem i_M_drawn_218 : ins m_M_drawn 218 = some (.goto (-110), 3, 108, 0, 221) := rfl
theorem i_M_drawn_221 : ins m_M_drawn 221 = some (.aload_n 0, 1, 0, 0, 222) := rfl
theorem i_M_drawn_222 : ins m_M_drawn 222 = some (.iload_n 1, 1, 0, 0, 223) := rfl
theorem i_M_drawn_223 : ins m_M_drawn 223 = some (.iconst 0, 1, 0, 0, 224) := rfl
theorem i_M_drawn_224 : ins m_M_drawn 224 = some (.invokevirtual 399, 3, 158, 2, 227) := rfl
theorem i_M_drawn_227 : ins m_M_drawn 227 = some (.iload_n 3, 1, 0, 0, 228) := rfl
theorem i_M_drawn_228 : ins m_M_drawn 228 = some (.if_icmp .ne 6, 3, 234, 0, 231) := rfl
theorem i_M_drawn_231 : ins m_M_drawn 231 = some (.iinc 7 1, 3, 0, 0, 234) := rfl
theorem i_M_drawn_234 : ins m_M_drawn 234 = some (.iinc 8 1, 3, 0, 0, 237) := rfl
theorem i_M_drawn_237 : ins m_M_drawn 237 = some (.goto (-139), 3, 98, 0, 240) := rfl
theorem i_M_drawn_240 : ins m_M_drawn 240 = some (.iload 7, 2, 0, 0, 242) := rfl
theorem i_M_drawn_242 : ins m_M_drawn 242 = some (.ireturn, 1, 0, 0, 243) := rfl
theorem i_M_count_0 : ins m_M_count 0 = some (.iload_n 1, 1, 0, 0, 1) := rfl
theorem i_M_count_1 : ins m_M_count 1 = some (.ifCond .ne 10, 3, 11, 0, 4) := rfl
theorem i_M_count_4 : ins m_M_count 4 = some (.aload_n 0, 1, 0, 0, 5) := rfl
theorem i_M_count_5 : ins m_M_count 5 = some (.getfield 275, 3, 1105, 0, 8) := rfl
theorem i_M_count_8 : ins m_M_count 8 = some (.goto 53, 3, 61, 0, 11) := rfl
theorem i_M_count_11 : ins m_M_count 11 = some (.iload_n 1, 1, 0, 0, 12) := rfl
theorem i_M_count_12 : ins m_M_count 12 = some (.iconst 1, 1, 0, 0, 13) := rfl
theorem i_M_count_13 : ins m_M_count 13 = some (.if_icmp .ne 10, 3, 23, 0, 16) := rfl
theorem i_M_count_16 : ins m_M_count 16 = some (.aload_n 0, 1, 0, 0, 17) := rfl
theorem i_M_count_17 : ins m_M_count 17 = some (.getfield 278, 3, 1106, 0, 20) := rfl
theorem i_M_count_20 : ins m_M_count 20 = some (.goto 41, 3, 61, 0, 23) := rfl
theorem i_M_count_23 : ins m_M_count 23 = some (.iload_n 1, 1, 0, 0, 24) := rfl
theorem i_M_count_24 : ins m_M_count 24 = some (.iconst 2, 1, 0, 0, 25) := rfl
theorem i_M_count_25 : ins m_M_count 25 = some (.if_icmp .ne 10, 3, 35, 0, 28) := rfl
theorem i_M_count_28 : ins m_M_count 28 = some (.aload_n 0, 1, 0, 0, 29) := rfl
theorem i_M_count_29 : ins m_M_count 29 = some (.getfield 155, 3, 1104, 0, 32) := rfl
theorem i_M_count_32 : ins m_M_count 32 = some (.goto 29, 3, 61, 0, 35) := rfl
theorem i_M_count_35 : ins m_M_count 35 = some (.iload_n 1, 1, 0, 0, 36) := rfl
theorem i_M_count_36 : ins m_M_count 36 = some (.iconst 3, 1, 0, 0, 37) := rfl
theorem i_M_count_37 : ins m_M_count 37 = some (.if_icmp .ne 10, 3, 47, 0, 40) := rfl
theorem i_M_count_40 : ins m_M_count 40 = some (.aload_n 0, 1, 0, 0, 41) := rfl
theorem i_M_count_41 : ins m_M_count 41 = some (.getfield 151, 3, 1103, 0, 44) := rfl
theorem i_M_count_44 : ins m_M_count 44 = some (.goto 17, 3, 61, 0, 47) := rfl
theorem i_M_count_47 : ins m_M_count 47 = some (.iload_n 1, 1, 0, 0, 48) := rfl
theorem i_M_count_48 : ins m_M_count 48 = some (.iconst 4, 1, 0, 0, 49) := rfl
theorem i_M_count_49 : ins m_M_count 49 = some (.if_icmp .ne 10, 3, 59, 0, 52) := rfl
theorem i_M_count_52 : ins m_M_count 52 = some (.aload_n 0, 1, 0, 0, 53) := rfl
theorem i_M_count_53 : ins m_M_count 53 = some (.getfield 324, 3, 1144, 0, 56) := rfl
theorem i_M_count_56 : ins m_M_count 56 = some (.goto 5, 3, 61, 0, 59) := rfl
theorem i_M_count_59 : ins m_M_count 59 = some (.bipush (-2), 2, 0, 0, 61) := rfl
theorem i_M_count_61 : ins m_M_count 61 = some (.ireturn, 1, 0, 0, 62) := rfl
theorem i_J_rangeCheck_0 : ins m_J_rangeCheck 0 = some (.iload_n 1, 1, 0, 0, 1) := rfl
theorem i_J_rangeCheck_1 : ins m_J_rangeCheck 1 = some (.iload_n 2, 1, 0, 0, 2) := rfl
theorem i_J_rangeCheck_2 : ins m_J_rangeCheck 2 = some (.if_icmp .le 44, 3, 46, 0, 5) := rfl
theorem i_J_rangeCheck_8 : ins m_J_rangeCheck 8 = some (.dup, 1, 0, 0, 9) := rfl
theorem i_J_rangeCheck_12 : ins m_J_rangeCheck 12 = some (.dup, 1, 0, 0, 13) := rfl
theorem i_J_rangeCheck_21 : ins m_J_rangeCheck 21 = some (.iload_n 1, 1, 0, 0, 22) := rfl
theorem i_J_rangeCheck_30 : ins m_J_rangeCheck 30 = some (.iload_n 2, 1, 0, 0, 31) := rfl
theorem i_J_rangeCheck_46 : ins m_J_rangeCheck 46 = some (.iload_n 1, 1, 0, 0, 47) := rfl
theorem i_J_rangeCheck_47 : ins m_J_rangeCheck 47 = some (.ifCond .ge 12, 3, 59, 0, 50) := rfl
theorem i_J_rangeCheck_53 : ins m_J_rangeCheck 53 = some (.dup, 1, 0, 0, 54) := rfl
theorem i_J_rangeCheck_54 : ins m_J_rangeCheck 54 = some (.iload_n 1, 1, 0, 0, 55) := rfl
theorem i_J_rangeCheck_59 : ins m_J_rangeCheck 59 = some (.iload_n 2, 1, 0, 0, 60) := rfl
theorem i_J_rangeCheck_60 : ins m_J_rangeCheck 60 = some (.iload_n 0, 1, 0, 0, 61) := rfl
theorem i_J_rangeCheck_61 : ins m_J_rangeCheck 61 = some (.if_icmp .le 12, 3, 73, 0, 64) := rfl
theorem i_J_rangeCheck_67 : ins m_J_rangeCheck 67 = some (.dup, 1, 0, 0, 68) := rfl
theorem i_J_rangeCheck_68 : ins m_J_rangeCheck 68 = some (.iload_n 2, 1, 0, 0, 69) := rfl
theorem i_J_rangeCheck_73 : ins m_J_rangeCheck 73 = some (.return_, 1, 0, 0, 74) := rfl
theorem i_J_fill_0 : ins m_J_fill 0 = some (.aload_n 0, 1, 0, 0, 1) := rfl
theorem i_J_fill_1 : ins m_J_fill 1 = some (.arraylength, 1, 0, 0, 2) := rfl
theorem i_J_fill_2 : ins m_J_fill 2 = some (.iload_n 1, 1, 0, 0, 3) := rfl
theorem i_J_fill_3 : ins m_J_fill 3 = some (.iload_n 2, 1, 0, 0, 4) := rfl
theorem i_J_fill_4 : ins m_J_fill 4 = some (.invokestatic 13, 3, 173, 3, 7) := rfl
theorem i_J_fill_7 : ins m_J_fill 7 = some (.iload_n 1, 1, 0, 0, 8) := rfl
theorem i_J_fill_8 : ins m_J_fill 8 = some (.istore 4, 2, 0, 0, 10) := rfl
theorem i_J_fill_10 : ins m_J_fill 10 = some (.iload 4, 2, 0, 0, 12) := rfl
theorem i_J_fill_12 : ins m_J_fill 12 = some (.iload_n 2, 1, 0, 0, 13) := rfl
theorem i_J_fill_13 : ins m_J_fill 13 = some (.if_icmp .ge 14, 3, 27, 0, 16) := rfl
theorem i_J_fill_16 : ins m_J_fill 16 = some (.aload_n 0, 1, 0, 0, 17) := rfl
theorem i_J_fill_17 : ins m_J_fill 17 = some (.iload 4, 2, 0, 0, 19) := rfl
theorem i_J_fill_19 : ins m_J_fill 19 = some (.iload_n 3, 1, 0, 0, 20) := rfl
theorem i_J_fill_20 : ins m_J_fill 20 = some (.iastore, 1, 0, 0, 21) := rfl
theorem i_J_fill_21 : ins m_J_fill 21 = some (.iinc 4 1, 3, 0, 0, 24) := rfl
theorem i_J_fill_24 : ins m_J_fill 24 = some (.goto (-14), 3, 10, 0, 27) := rfl
theorem i_J_fill_27 : ins m_J_fill 27 = some (.return_, 1, 0, 0, 28) := rfl
theorem i_L_law_0 : ins m_L_law 0 = some (.new 7, 3, 10, 0, 3) := rfl
theorem i_L_law_3 : ins m_L_law 3 = some (.dup, 1, 0, 0, 4) := rfl
theorem i_L_law_4 : ins m_L_law 4 = some (.invokespecial 9, 3, 99, 0, 7) := rfl
theorem i_L_law_7 : ins m_L_law 7 = some (.astore_n 1, 1, 0, 0, 8) := rfl
theorem i_L_law_8 : ins m_L_law 8 = some (.new 10, 3, 11, 0, 11) := rfl
theorem i_L_law_11 : ins m_L_law 11 = some (.dup, 1, 0, 0, 12) := rfl
theorem i_L_law_12 : ins m_L_law 12 = some (.invokespecial 12, 3, 112, 0, 15) := rfl
theorem i_L_law_15 : ins m_L_law 15 = some (.astore_n 2, 1, 0, 0, 16) := rfl
theorem i_L_law_16 : ins m_L_law 16 = some (.iconst 0, 1, 0, 0, 17) := rfl
theorem i_L_law_17 : ins m_L_law 17 = some (.istore_n 3, 1, 0, 0, 18) := rfl
theorem i_L_law_18 : ins m_L_law 18 = some (.iload_n 3, 1, 0, 0, 19) := rfl
theorem i_L_law_19 : ins m_L_law 19 = some (.aload_n 0, 1, 0, 0, 20) := rfl
theorem i_L_law_20 : ins m_L_law 20 = some (.arraylength, 1, 0, 0, 21) := rfl
theorem i_L_law_21 : ins m_L_law 21 = some (.iconst 5, 1, 0, 0, 22) := rfl
theorem i_L_law_22 : ins m_L_law 22 = some (.isub, 1, 0, 0, 23) := rfl
theorem i_L_law_23 : ins m_L_law 23 = some (.if_icmp .gt 405, 3, 428, 0, 26) := rfl
theorem i_L_law_26 : ins m_L_law 26 = some (.aload_n 0, 1, 0, 0, 27) := rfl
theorem i_L_law_27 : ins m_L_law 27 = some (.iload_n 3, 1, 0, 0, 28) := rfl
theorem i_L_law_28 : ins m_L_law 28 = some (.iaload, 1, 0, 0, 29) := rfl
theorem i_L_law_29 : ins m_L_law 29 = some (.bipush 15, 2, 0, 0, 31) := rfl
theorem i_L_law_31 : ins m_L_law 31 = some (.iand, 1, 0, 0, 32) := rfl
theorem i_L_law_32 : ins m_L_law 32 = some (.tableswitch 390 0 11 #[64, 97, 110, 123, 156, 179, 212, 225, 248, 281, 314, 367], 64, 0, 0, 96) := rfl
theorem i_L_law_96 : ins m_L_law 96 = some (.aload_n 1, 1, 0, 0, 97) := rfl
theorem i_L_law_97 : ins m_L_law 97 = some (.aload_n 0, 1, 0, 0, 98) := rfl
theorem i_L_law_98 : ins m_L_law 98 = some (.iload_n 3, 1, 0, 0, 99) := rfl
theorem i_L_law_99 : ins m_L_law 99 = some (.iconst 1, 1, 0, 0, 100) := rfl
theorem i_L_law_100 : ins m_L_law 100 = some (.iadd, 1, 0, 0, 101) := rfl
theorem i_L_law_101 : ins m_L_law 101 = some (.iaload, 1, 0, 0, 102) := rfl
theorem i_L_law_102 : ins m_L_law 102 = some (.aload_n 0, 1, 0, 0, 103) := rfl
theorem i_L_law_103 : ins m_L_law 103 = some (.iload_n 3, 1, 0, 0, 104) := rfl
theorem i_L_law_104 : ins m_L_law 104 = some (.iconst 2, 1, 0, 0, 105) := rfl
theorem i_L_law_105 : ins m_L_law 105 = some (.iadd, 1, 0, 0, 106) := rfl
theorem i_L_law_106 : ins m_L_law 106 = some (.iaload, 1, 0, 0, 107) := rfl
theorem i_L_law_107 : ins m_L_law 107 = some (.invokevirtual 13, 3, 100, 2, 110) := rfl
theorem i_L_law_110 : ins m_L_law 110 = some (.aload_n 2, 1, 0, 0, 111) := rfl
theorem i_L_law_111 : ins m_L_law 111 = some (.aload_n 0, 1, 0, 0, 112) := rfl
theorem i_L_law_112 : ins m_L_law 112 = some (.iload_n 3, 1, 0, 0, 113) := rfl
theorem i_L_law_113 : ins m_L_law 113 = some (.iconst 1, 1, 0, 0, 114) := rfl
theorem i_L_law_114 : ins m_L_law 114 = some (.iadd, 1, 0, 0, 115) := rfl
theorem i_L_law_115 : ins m_L_law 115 = some (.iaload, 1, 0, 0, 116) := rfl
theorem i_L_law_116 : ins m_L_law 116 = some (.aload_n 0, 1, 0, 0, 117) := rfl
theorem i_L_law_117 : ins m_L_law 117 = some (.iload_n 3, 1, 0, 0, 118) := rfl
theorem i_L_law_118 : ins m_L_law 118 = some (.iconst 2, 1, 0, 0, 119) := rfl
theorem i_L_law_119 : ins m_L_law 119 = some (.iadd, 1, 0, 0, 120) := rfl
theorem i_L_law_120 : ins m_L_law 120 = some (.iaload, 1, 0, 0, 121) := rfl
theorem i_L_law_121 : ins m_L_law 121 = some (.invokevirtual 17, 3, 113, 2, 124) := rfl
theorem i_L_law_124 : ins m_L_law 124 = some (.if_icmp .eq 298, 3, 422, 0, 127) := rfl
theorem i_L_law_127 : ins m_L_law 127 = some (.iconst 0, 1, 0, 0, 128) := rfl
theorem i_L_law_128 : ins m_L_law 128 = some (.ireturn, 1, 0, 0, 129) := rfl
theorem i_L_law_129 : ins m_L_law 129 = some (.aload_n 1, 1, 0, 0, 130) := rfl
theorem i_L_law_130 : ins m_L_law 130 = some (.invokevirtual 18, 3, 101, 0, 133) := rfl
theorem i_L_law_133 : ins m_L_law 133 = some (.aload_n 2, 1, 0, 0, 134) := rfl
theorem i_L_law_134 : ins m_L_law 134 = some (.invokevirtual 22, 3, 135, 0, 137) := rfl
theorem i_L_law_137 : ins m_L_law 137 = some (.if_icmp .eq 285, 3, 422, 0, 140) := rfl
theorem i_L_law_140 : ins m_L_law 140 = some (.iconst 0, 1, 0, 0, 141) := rfl
theorem i_L_law_141 : ins m_L_law 141 = some (.ireturn, 1, 0, 0, 142) := rfl
theorem i_L_law_142 : ins m_L_law 142 = some (.aload_n 1, 1, 0, 0, 143) := rfl
theorem i_L_law_143 : ins m_L_law 143 = some (.invokevirtual 23, 3, 102, 0, 146) := rfl
theorem i_L_law_146 : ins m_L_law 146 = some (.aload_n 2, 1, 0, 0, 147) := rfl
theorem i_L_law_147 : ins m_L_law 147 = some (.invokevirtual 26, 3, 114, 0, 150) := rfl
theorem i_L_law_150 : ins m_L_law 150 = some (.if_icmp .eq 272, 3, 422, 0, 153) := rfl
theorem i_L_law_153 : ins m_L_law 153 = some (.iconst 0, 1, 0, 0, 154) := rfl
theorem i_L_law_154 : ins m_L_law 154 = some (.ireturn, 1, 0, 0, 155) := rfl
theorem i_L_law_155 : ins m_L_law 155 = some (.aload_n 1, 1, 0, 0, 156) := rfl
theorem i_L_law_156 : ins m_L_law 156 = some (.aload_n 0, 1, 0, 0, 157) := rfl
theorem i_L_law_157 : ins m_L_law 157 = some (.iload_n 3, 1, 0, 0, 158) := rfl
theorem i_L_law_158 : ins m_L_law 158 = some (.iconst 1, 1, 0, 0, 159) := rfl
theorem i_L_law_159 : ins m_L_law 159 = some (.iadd, 1, 0, 0, 160) := rfl
theorem i_L_law_160 : ins m_L_law 160 = some (.iaload, 1, 0, 0, 161) := rfl
theorem i_L_law_161 : ins m_L_law 161 = some (.aload_n 0, 1, 0, 0, 162) := rfl
theorem i_L_law_162 : ins m_L_law 162 = some (.iload_n 3, 1, 0, 0, 163) := rfl
theorem i_L_law_163 : ins m_L_law 163 = some (.iconst 2, 1, 0, 0, 164) := rfl
theorem i_L_law_164 : ins m_L_law 164 = some (.iadd, 1, 0, 0, 165) := rfl
theorem i_L_law_165 : ins m_L_law 165 = some (.iaload, 1, 0, 0, 166) := rfl
theorem i_L_law_166 : ins m_L_law 166 = some (.invokevirtual 27, 3, 103, 2, 169) := rfl
theorem i_L_law_169 : ins m_L_law 169 = some (.aload_n 2, 1, 0, 0, 170) := rfl
theorem i_L_law_170 : ins m_L_law 170 = some (.aload_n 0, 1, 0, 0, 171) := rfl
theorem i_L_law_171 : ins m_L_law 171 = some (.iload_n 3, 1, 0, 0, 172) := rfl
theorem i_L_law_172 : ins m_L_law 172 = some (.iconst 1, 1, 0, 0, 173) := rfl
theorem i_L_law_173 : ins m_L_law 173 = some (.iadd, 1, 0, 0, 174) := rfl
theorem i_L_law_174 : ins m_L_law 174 = some (.iaload, 1, 0, 0, 175) := rfl
theorem i_L_law_175 : ins m_L_law 175 = some (.aload_n 0, 1, 0, 0, 176) := rfl
theorem i_L_law_176 : ins m_L_law 176 = some (.iload_n 3, 1, 0, 0, 177) := rfl
theorem i_L_law_177 : ins m_L_law 177 = some (.iconst 2, 1, 0, 0, 178) := rfl
theorem i_L_law_178 : ins m_L_law 178 = some (.iadd, 1, 0, 0, 179) := rfl
theorem i_L_law_179 : ins m_L_law 179 = some (.iaload, 1, 0, 0, 180) := rfl
theorem i_L_law_180 : ins m_L_law 180 = some (.invokevirtual 30, 3, 161, 2, 183) := rfl
theorem i_L_law_183 : ins m_L_law 183 = some (.if_icmp .eq 239, 3, 422, 0, 186) := rfl
theorem i_L_law_186 : ins m_L_law 186 = some (.iconst 0, 1, 0, 0, 187) := rfl
theorem i_L_law_187 : ins m_L_law 187 = some (.ireturn, 1, 0, 0, 188) := rfl
theorem i_L_law_188 : ins m_L_law 188 = some (.aload_n 1, 1, 0, 0, 189) := rfl
theorem i_L_law_189 : ins m_L_law 189 = some (.aload_n 0, 1, 0, 0, 190) := rfl
theorem i_L_law_190 : ins m_L_law 190 = some (.iload_n 3, 1, 0, 0, 191) := rfl
theorem i_L_law_191 : ins m_L_law 191 = some (.iconst 1, 1, 0, 0, 192) := rfl
theorem i_L_law_192 : ins m_L_law 192 = some (.iadd, 1, 0, 0, 193) := rfl
theorem i_L_law_193 : ins m_L_law 193 = some (.iaload, 1, 0, 0, 194) := rfl
theorem i_L_law_194 : ins m_L_law 194 = some (.invokevirtual 31, 3, 104, 1, 197) := rfl
theorem i_L_law_197 : ins m_L_law 197 = some (.aload_n 2, 1, 0, 0, 198) := rfl
theorem i_L_law_198 : ins m_L_law 198 = some (.aload_n 0, 1, 0, 0, 199) := rfl
theorem i_L_law_199 : ins m_L_law 199 = some (.iload_n 3, 1, 0, 0, 200) := rfl
theorem i_L_law_200 : ins m_L_law 200 = some (.iconst 1, 1, 0, 0, 201) := rfl
theorem i_L_law_201 : ins m_L_law 201 = some (.iadd, 1, 0, 0, 202) := rfl
theorem i_L_law_202 : ins m_L_law 202 = some (.iaload, 1, 0, 0, 203) := rfl
theorem i_L_law_203 : ins m_L_law 203 = some (.invokevirtual 35, 3, 162, 1, 206) := rfl
theorem i_L_law_206 : ins m_L_law 206 = some (.if_icmp .eq 216, 3, 422, 0, 209) := rfl
theorem i_L_law_209 : ins m_L_law 209 = some (.iconst 0, 1, 0, 0, 210) := rfl
theorem i_L_law_210 : ins m_L_law 210 = some (.ireturn, 1, 0, 0, 211) := rfl
theorem i_L_law_211 : ins m_L_law 211 = some (.aload_n 1, 1, 0, 0, 212) := rfl
theorem i_L_law_212 : ins m_L_law 212 = some (.aload_n 0, 1, 0, 0, 213) := rfl
theorem i_L_law_213 : ins m_L_law 213 = some (.iload_n 3, 1, 0, 0, 214) := rfl
theorem i_L_law_214 : ins m_L_law 214 = some (.iconst 1, 1, 0, 0, 215) := rfl
theorem i_L_law_215 : ins m_L_law 215 = some (.iadd, 1, 0, 0, 216) := rfl
theorem i_L_law_216 : ins m_L_law 216 = some (.iaload, 1, 0, 0, 217) := rfl
theorem i_L_law_217 : ins m_L_law 217 = some (.aload_n 0, 1, 0, 0, 218) := rfl
theorem i_L_law_218 : ins m_L_law 218 = some (.iload_n 3, 1, 0, 0, 219) := rfl
theorem i_L_law_219 : ins m_L_law 219 = some (.iconst 2, 1, 0, 0, 220) := rfl
theorem i_L_law_220 : ins m_L_law 220 = some (.iadd, 1, 0, 0, 221) := rfl
theorem i_L_law_221 : ins m_L_law 221 = some (.iaload, 1, 0, 0, 222) := rfl
theorem i_L_law_222 : ins m_L_law 222 = some (.invokevirtual 36, 3, 105, 2, 225) := rfl
theorem i_L_law_225 : ins m_L_law 225 = some (.aload_n 2, 1, 0, 0, 226) := rfl
theorem i_L_law_226 : ins m_L_law 226 = some (.aload_n 0, 1, 0, 0, 227) := rfl
theorem i_L_law_227 : ins m_L_law 227 = some (.iload_n 3, 1, 0, 0, 228) := rfl
theorem i_L_law_228 : ins m_L_law 228 = some (.iconst 1, 1, 0, 0, 229) := rfl
theorem i_L_law_229 : ins m_L_law 229 = some (.iadd, 1, 0, 0, 230) := rfl
theorem i_L_law_230 : ins m_L_law 230 = some (.iaload, 1, 0, 0, 231) := rfl
theorem i_L_law_231 : ins m_L_law 231 = some (.aload_n 0, 1, 0, 0, 232) := rfl
theorem i_L_law_232 : ins m_L_law 232 = some (.iload_n 3, 1, 0, 0, 233) := rfl
theorem i_L_law_233 : ins m_L_law 233 = some (.iconst 2, 1, 0, 0, 234) := rfl
theorem i_L_law_234 : ins m_L_law 234 = some (.iadd, 1, 0, 0, 235) := rfl
theorem i_L_law_235 : ins m_L_law 235 = some (.iaload, 1, 0, 0, 236) := rfl
theorem i_L_law_236 : ins m_L_law 236 = some (.invokevirtual 39, 3, 163, 2, 239) := rfl
theorem i_L_law_239 : ins m_L_law 239 = some (.if_icmp .eq 183, 3, 422, 0, 242) := rfl
theorem i_L_law_242 : ins m_L_law 242 = some (.iconst 0, 1, 0, 0, 243) := rfl
theorem i_L_law_243 : ins m_L_law 243 = some (.ireturn, 1, 0, 0, 244) := rfl
theorem i_L_law_244 : ins m_L_law 244 = some (.aload_n 1, 1, 0, 0, 245) := rfl
theorem i_L_law_245 : ins m_L_law 245 = some (.invokevirtual 40, 3, 106, 0, 248) := rfl
theorem i_L_law_248 : ins m_L_law 248 = some (.aload_n 2, 1, 0, 0, 249) := rfl
theorem i_L_law_249 : ins m_L_law 249 = some (.invokevirtual 43, 3, 165, 0, 252) := rfl
theorem i_L_law_252 : ins m_L_law 252 = some (.if_icmp .eq 170, 3, 422, 0, 255) := rfl
theorem i_L_law_255 : ins m_L_law 255 = some (.iconst 0, 1, 0, 0, 256) := rfl
theorem i_L_law_256 : ins m_L_law 256 = some (.ireturn, 1, 0, 0, 257) := rfl
theorem i_L_law_257 : ins m_L_law 257 = some (.aload_n 1, 1, 0, 0, 258) := rfl
theorem i_L_law_258 : ins m_L_law 258 = some (.aload_n 0, 1, 0, 0, 259) := rfl
theorem i_L_law_259 : ins m_L_law 259 = some (.iload_n 3, 1, 0, 0, 260) := rfl
theorem i_L_law_260 : ins m_L_law 260 = some (.iconst 1, 1, 0, 0, 261) := rfl
theorem i_L_law_261 : ins m_L_law 261 = some (.iadd, 1, 0, 0, 262) := rfl
theorem i_L_law_262 : ins m_L_law 262 = some (.iaload, 1, 0, 0, 263) := rfl
theorem i_L_law_263 : ins m_L_law 263 = some (.invokevirtual 44, 3, 107, 1, 266) := rfl
theorem i_L_law_266 : ins m_L_law 266 = some (.aload_n 2, 1, 0, 0, 267) := rfl
theorem i_L_law_267 : ins m_L_law 267 = some (.aload_n 0, 1, 0, 0, 268) := rfl
theorem i_L_law_268 : ins m_L_law 268 = some (.iload_n 3, 1, 0, 0, 269) := rfl
theorem i_L_law_269 : ins m_L_law 269 = some (.iconst 1, 1, 0, 0, 270) := rfl
theorem i_L_law_270 : ins m_L_law 270 = some (.iadd, 1, 0, 0, 271) := rfl
theorem i_L_law_271 : ins m_L_law 271 = some (.iaload, 1, 0, 0, 272) := rfl
theorem i_L_law_272 : ins m_L_law 272 = some (.invokevirtual 47, 3, 168, 1, 275) := rfl
theorem i_L_law_275 : ins m_L_law 275 = some (.if_icmp .eq 147, 3, 422, 0, 278) := rfl
theorem i_L_law_278 : ins m_L_law 278 = some (.iconst 0, 1, 0, 0, 279) := rfl
theorem i_L_law_279 : ins m_L_law 279 = some (.ireturn, 1, 0, 0, 280) := rfl
theorem i_L_law_280 : ins m_L_law 280 = some (.aload_n 1, 1, 0, 0, 281) := rfl
theorem i_L_law_281 : ins m_L_law 281 = some (.aload_n 0, 1, 0, 0, 282) := rfl
theorem i_L_law_282 : ins m_L_law 282 = some (.iload_n 3, 1, 0, 0, 283) := rfl
theorem i_L_law_283 : ins m_L_law 283 = some (.iconst 1, 1, 0, 0, 284) := rfl
theorem i_L_law_284 : ins m_L_law 284 = some (.iadd, 1, 0, 0, 285) := rfl
theorem i_L_law_285 : ins m_L_law 285 = some (.iaload, 1, 0, 0, 286) := rfl
theorem i_L_law_286 : ins m_L_law 286 = some (.aload_n 0, 1, 0, 0, 287) := rfl
theorem i_L_law_287 : ins m_L_law 287 = some (.iload_n 3, 1, 0, 0, 288) := rfl
theorem i_L_law_288 : ins m_L_law 288 = some (.iconst 2, 1, 0, 0, 289) := rfl
theorem i_L_law_289 : ins m_L_law 289 = some (.iadd, 1, 0, 0, 290) := rfl
theorem i_L_law_290 : ins m_L_law 290 = some (.iaload, 1, 0, 0, 291) := rfl
theorem i_L_law_291 : ins m_L_law 291 = some (.invokevirtual 48, 3, 108, 2, 294) := rfl
theorem i_L_law_294 : ins m_L_law 294 = some (.aload_n 2, 1, 0, 0, 295) := rfl
theorem i_L_law_295 : ins m_L_law 295 = some (.aload_n 0, 1, 0, 0, 296) := rfl
theorem i_L_law_296 : ins m_L_law 296 = some (.iload_n 3, 1, 0, 0, 297) := rfl
theorem i_L_law_297 : ins m_L_law 297 = some (.iconst 1, 1, 0, 0, 298) := rfl
theorem i_L_law_298 : ins m_L_law 298 = some (.iadd, 1, 0, 0, 299) := rfl
theorem i_L_law_299 : ins m_L_law 299 = some (.iaload, 1, 0, 0, 300) := rfl
theorem i_L_law_300 : ins m_L_law 300 = some (.aload_n 0, 1, 0, 0, 301) := rfl
theorem i_L_law_301 : ins m_L_law 301 = some (.iload_n 3, 1, 0, 0, 302) := rfl
theorem i_L_law_302 : ins m_L_law 302 = some (.iconst 2, 1, 0, 0, 303) := rfl
theorem i_L_law_303 : ins m_L_law 303 = some (.iadd, 1, 0, 0, 304) := rfl
theorem i_L_law_304 : ins m_L_law 304 = some (.iaload, 1, 0, 0, 305) := rfl
theorem i_L_law_305 : ins m_L_law 305 = some (.invokevirtual 51, 3, 169, 2, 308) := rfl
theorem i_L_law_308 : ins m_L_law 308 = some (.if_icmp .eq 114, 3, 422, 0, 311) := rfl
theorem i_L_law_311 : ins m_L_law 311 = some (.iconst 0, 1, 0, 0, 312) := rfl
theorem i_L_law_312 : ins m_L_law 312 = some (.ireturn, 1, 0, 0, 313) := rfl
theorem i_L_law_313 : ins m_L_law 313 = some (.aload_n 1, 1, 0, 0, 314) := rfl
theorem i_L_law_314 : ins m_L_law 314 = some (.aload_n 0, 1, 0, 0, 315) := rfl
theorem i_L_law_315 : ins m_L_law 315 = some (.iload_n 3, 1, 0, 0, 316) := rfl
theorem i_L_law_316 : ins m_L_law 316 = some (.iconst 1, 1, 0, 0, 317) := rfl
theorem i_L_law_317 : ins m_L_law 317 = some (.iadd, 1, 0, 0, 318) := rfl
theorem i_L_law_318 : ins m_L_law 318 = some (.iaload, 1, 0, 0, 319) := rfl
theorem i_L_law_319 : ins m_L_law 319 = some (.aload_n 0, 1, 0, 0, 320) := rfl
theorem i_L_law_320 : ins m_L_law 320 = some (.iload_n 3, 1, 0, 0, 321) := rfl
theorem i_L_law_321 : ins m_L_law 321 = some (.iconst 2, 1, 0, 0, 322) := rfl
theorem i_L_law_322 : ins m_L_law 322 = some (.iadd, 1, 0, 0, 323) := rfl
theorem i_L_law_323 : ins m_L_law 323 = some (.iaload, 1, 0, 0, 324) := rfl
theorem i_L_law_324 : ins m_L_law 324 = some (.invokevirtual 52, 3, 109, 2, 327) := rfl
theorem i_L_law_327 : ins m_L_law 327 = some (.aload_n 2, 1, 0, 0, 328) := rfl
theorem i_L_law_328 : ins m_L_law 328 = some (.aload_n 0, 1, 0, 0, 329) := rfl
theorem i_L_law_329 : ins m_L_law 329 = some (.iload_n 3, 1, 0, 0, 330) := rfl
theorem i_L_law_330 : ins m_L_law 330 = some (.iconst 1, 1, 0, 0, 331) := rfl
theorem i_L_law_331 : ins m_L_law 331 = some (.iadd, 1, 0, 0, 332) := rfl
theorem i_L_law_332 : ins m_L_law 332 = some (.iaload, 1, 0, 0, 333) := rfl
theorem i_L_law_333 : ins m_L_law 333 = some (.aload_n 0, 1, 0, 0, 334) := rfl
theorem i_L_law_334 : ins m_L_law 334 = some (.iload_n 3, 1, 0, 0, 335) := rfl
theorem i_L_law_335 : ins m_L_law 335 = some (.iconst 2, 1, 0, 0, 336) := rfl
theorem i_L_law_336 : ins m_L_law 336 = some (.iadd, 1, 0, 0, 337) := rfl
theorem i_L_law_337 : ins m_L_law 337 = some (.iaload, 1, 0, 0, 338) := rfl
theorem i_L_law_338 : ins m_L_law 338 = some (.invokevirtual 55, 3, 170, 2, 341) := rfl
theorem i_L_law_341 : ins m_L_law 341 = some (.if_icmp .eq 81, 3, 422, 0, 344) := rfl
theorem i_L_law_344 : ins m_L_law 344 = some (.iconst 0, 1, 0, 0, 345) := rfl
theorem i_L_law_345 : ins m_L_law 345 = some (.ireturn, 1, 0, 0, 346) := rfl
theorem i_L_law_346 : ins m_L_law 346 = some (.aload_n 1, 1, 0, 0, 347) := rfl
theorem i_L_law_347 : ins m_L_law 347 = some (.aload_n 0, 1, 0, 0, 348) := rfl
theorem i_L_law_348 : ins m_L_law 348 = some (.iload_n 3, 1, 0, 0, 349) := rfl
theorem i_L_law_349 : ins m_L_law 349 = some (.iconst 1, 1, 0, 0, 350) := rfl
theorem i_L_law_350 : ins m_L_law 350 = some (.iadd, 1, 0, 0, 351) := rfl
theorem i_L_law_351 : ins m_L_law 351 = some (.iaload, 1, 0, 0, 352) := rfl
theorem i_L_law_352 : ins m_L_law 352 = some (.aload_n 0, 1, 0, 0, 353) := rfl
theorem i_L_law_353 : ins m_L_law 353 = some (.iload_n 3, 1, 0, 0, 354) := rfl
theorem i_L_law_354 : ins m_L_law 354 = some (.iconst 2, 1, 0, 0, 355) := rfl
theorem i_L_law_355 : ins m_L_law 355 = some (.iadd, 1, 0, 0, 356) := rfl
theorem i_L_law_356 : ins m_L_law 356 = some (.iaload, 1, 0, 0, 357) := rfl
theorem i_L_law_357 : ins m_L_law 357 = some (.aload_n 0, 1, 0, 0, 358) := rfl
theorem i_L_law_358 : ins m_L_law 358 = some (.iload_n 3, 1, 0, 0, 359) := rfl
theorem i_L_law_359 : ins m_L_law 359 = some (.iconst 3, 1, 0, 0, 360) := rfl
theorem i_L_law_360 : ins m_L_law 360 = some (.iadd, 1, 0, 0, 361) := rfl
theorem i_L_law_361 : ins m_L_law 361 = some (.iaload, 1, 0, 0, 362) := rfl
theorem i_L_law_362 : ins m_L_law 362 = some (.aload_n 0, 1, 0, 0, 363) := rfl
theorem i_L_law_363 : ins m_L_law 363 = some (.iload_n 3, 1, 0, 0, 364) := rfl
theorem i_L_law_364 : ins m_L_law 364 = some (.iconst 4, 1, 0, 0, 365) := rfl
theorem i_L_law_365 : ins m_L_law 365 = some (.iadd, 1, 0, 0, 366) := rfl
theorem i_L_law_366 : ins m_L_law 366 = some (.iaload, 1, 0, 0, 367) := rfl
theorem i_L_law_367 : ins m_L_law 367 = some (.invokevirtual 56, 3, 110, 4, 370) := rfl
theorem i_L_law_370 : ins m_L_law 370 = some (.aload_n 2, 1, 0, 0, 371) := rfl
theorem i_L_law_371 : ins m_L_law 371 = some (.aload_n 0, 1, 0, 0, 372) := rfl
theorem i_L_law_372 : ins m_L_law 372 = some (.iload_n 3, 1, 0, 0, 373) := rfl
theorem i_L_law_373 : ins m_L_law 373 = some (.iconst 1, 1, 0, 0, 374) := rfl
theorem i_L_law_374 : ins m_L_law 374 = some (.iadd, 1, 0, 0, 375) := rfl
theorem i_L_law_375 : ins m_L_law 375 = some (.iaload, 1, 0, 0, 376) := rfl
theorem i_L_law_376 : ins m_L_law 376 = some (.aload_n 0, 1, 0, 0, 377) := rfl
theorem i_L_law_377 : ins m_L_law 377 = some (.iload_n 3, 1, 0, 0, 378) := rfl
theorem i_L_law_378 : ins m_L_law 378 = some (.iconst 2, 1, 0, 0, 379) := rfl
theorem i_L_law_379 : ins m_L_law 379 = some (.iadd, 1, 0, 0, 380) := rfl
theorem i_L_law_380 : ins m_L_law 380 = some (.iaload, 1, 0, 0, 381) := rfl
theorem i_L_law_381 : ins m_L_law 381 = some (.aload_n 0, 1, 0, 0, 382) := rfl
theorem i_L_law_382 : ins m_L_law 382 = some (.iload_n 3, 1, 0, 0, 383) := rfl
theorem i_L_law_383 : ins m_L_law 383 = some (.iconst 3, 1, 0, 0, 384) := rfl
theorem i_L_law_384 : ins m_L_law 384 = some (.iadd, 1, 0, 0, 385) := rfl
theorem i_L_law_385 : ins m_L_law 385 = some (.iaload, 1, 0, 0, 386) := rfl
theorem i_L_law_386 : ins m_L_law 386 = some (.aload_n 0, 1, 0, 0, 387) := rfl
theorem i_L_law_387 : ins m_L_law 387 = some (.iload_n 3, 1, 0, 0, 388) := rfl
theorem i_L_law_388 : ins m_L_law 388 = some (.iconst 4, 1, 0, 0, 389) := rfl
theorem i_L_law_389 : ins m_L_law 389 = some (.iadd, 1, 0, 0, 390) := rfl
theorem i_L_law_390 : ins m_L_law 390 = some (.iaload, 1, 0, 0, 391) := rfl
theorem i_L_law_391 : ins m_L_law 391 = some (.invokevirtual 60, 3, 171, 4, 394) := rfl
theorem i_L_law_394 : ins m_L_law 394 = some (.if_icmp .eq 28, 3, 422, 0, 397) := rfl
theorem i_L_law_397 : ins m_L_law 397 = some (.iconst 0, 1, 0, 0, 398) := rfl
theorem i_L_law_398 : ins m_L_law 398 = some (.ireturn, 1, 0, 0, 399) := rfl
theorem i_L_law_399 : ins m_L_law 399 = some (.aload_n 1, 1, 0, 0, 400) := rfl
theorem i_L_law_400 : ins m_L_law 400 = some (.aload_n 0, 1, 0, 0, 401) := rfl
theorem i_L_law_401 : ins m_L_law 401 = some (.iload_n 3, 1, 0, 0, 402) := rfl
theorem i_L_law_402 : ins m_L_law 402 = some (.iconst 1, 1, 0, 0, 403) := rfl
theorem i_L_law_403 : ins m_L_law 403 = some (.iadd, 1, 0, 0, 404) := rfl
theorem i_L_law_404 : ins m_L_law 404 = some (.iaload, 1, 0, 0, 405) := rfl
theorem i_L_law_405 : ins m_L_law 405 = some (.invokevirtual 61, 3, 111, 1, 408) := rfl
theorem i_L_law_408 : ins m_L_law 408 = some (.aload_n 2, 1, 0, 0, 409) := rfl
theorem i_L_law_409 : ins m_L_law 409 = some (.aload_n 0, 1, 0, 0, 410) := rfl
theorem i_L_law_410 : ins m_L_law 410 = some (.iload_n 3, 1, 0, 0, 411) := rfl
theorem i_L_law_411 : ins m_L_law 411 = some (.iconst 1, 1, 0, 0, 412) := rfl
theorem i_L_law_412 : ins m_L_law 412 = some (.iadd, 1, 0, 0, 413) := rfl
theorem i_L_law_413 : ins m_L_law 413 = some (.iaload, 1, 0, 0, 414) := rfl
theorem i_L_law_414 : ins m_L_law 414 = some (.invokevirtual 64, 3, 172, 1, 417) := rfl
theorem i_L_law_417 : ins m_L_law 417 = some (.if_icmp .eq 5, 3, 422, 0, 420) := rfl
theorem i_L_law_420 : ins m_L_law 420 = some (.iconst 0, 1, 0, 0, 421) := rfl
theorem i_L_law_421 : ins m_L_law 421 = some (.ireturn, 1, 0, 0, 422) := rfl
theorem i_L_law_422 : ins m_L_law 422 = some (.iinc 3 5, 3, 0, 0, 425) := rfl
theorem i_L_law_425 : ins m_L_law 425 = some (.goto (-407), 3, 18, 0, 428) := rfl
theorem i_L_law_428 : ins m_L_law 428 = some (.iconst 1, 1, 0, 0, 429) := rfl
theorem i_L_law_429 : ins m_L_law 429 = some (.ireturn, 1, 0, 0, 430) := rfl
