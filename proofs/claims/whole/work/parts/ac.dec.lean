theorem dX12_person_0 : decode cX12_person 0 = .ok (.aload_n 0, 1) := by decide +kernel
theorem dX12_person_1 : decode cX12_person 1 = .ok (.getfield 35, 3) := by decide +kernel
theorem dX12_person_4 : decode cX12_person 4 = .ok (.iload_n 1, 1) := by decide +kernel
theorem dX12_person_5 : decode cX12_person 5 = .ok (.invokevirtual 167, 3) := by decide +kernel
theorem dX12_person_8 : decode cX12_person 8 = .ok (.ifCond .eq 12, 3) := by decide +kernel
theorem dX12_person_11 : decode cX12_person 11 = .ok (.iload_n 2, 1) := by decide +kernel
theorem dX12_person_12 : decode cX12_person 12 = .ok (.ifCond .lt 8, 3) := by decide +kernel
theorem dX12_person_15 : decode cX12_person 15 = .ok (.iload_n 2, 1) := by decide +kernel
theorem dX12_person_16 : decode cX12_person 16 = .ok (.iconst 4, 1) := by decide +kernel
theorem dX12_person_17 : decode cX12_person 17 = .ok (.if_icmp .lt 13, 3) := by decide +kernel
theorem dX12_person_20 : decode cX12_person 20 = .ok (.new 171, 3) := by decide +kernel
theorem dX12_person_23 : decode cX12_person 23 = .ok (.dup, 1) := by decide +kernel
theorem dX12_person_24 : decode cX12_person 24 = .ok (.ldc 173, 2) := by decide +kernel
theorem dX12_person_26 : decode cX12_person 26 = .ok (.invokespecial 175, 3) := by decide +kernel
theorem dX12_person_29 : decode cX12_person 29 = .ok (.athrow, 1) := by decide +kernel
theorem dX12_person_30 : decode cX12_person 30 = .ok (.aload_n 0, 1) := by decide +kernel
theorem dX12_person_31 : decode cX12_person 31 = .ok (.getfield 35, 3) := by decide +kernel
theorem dX12_person_34 : decode cX12_person 34 = .ok (.iload_n 1, 1) := by decide +kernel
theorem dX12_person_35 : decode cX12_person 35 = .ok (.iload_n 2, 1) := by decide +kernel
theorem dX12_person_36 : decode cX12_person 36 = .ok (.invokevirtual 178, 3) := by decide +kernel
theorem dX12_person_39 : decode cX12_person 39 = .ok (.ireturn, 1) := by decide +kernel
theorem dL_person_0 : decode cL_person 0 = .ok (.aload_n 3, 1) := by decide +kernel
theorem dL_person_1 : decode cL_person 1 = .ok (.iconst 0, 1) := by decide +kernel
theorem dL_person_2 : decode cL_person 2 = .ok (.aload_n 0, 1) := by decide +kernel
theorem dL_person_3 : decode cL_person 3 = .ok (.iload_n 1, 1) := by decide +kernel
theorem dL_person_4 : decode cL_person 4 = .ok (.iload_n 2, 1) := by decide +kernel
theorem dL_person_5 : decode cL_person 5 = .ok (.invokevirtual 7, 3) := by decide +kernel
theorem dL_person_8 : decode cL_person 8 = .ok (.i2l, 1) := by decide +kernel
theorem dL_person_9 : decode cL_person 9 = .ok (.lastore, 1) := by decide +kernel
theorem dL_person_10 : decode cL_person 10 = .ok (.goto 7, 3) := by decide +kernel
theorem dL_person_13 : decode cL_person 13 = .ok (.astore 4, 2) := by decide +kernel
theorem dL_person_15 : decode cL_person 15 = .ok (.iconst 1, 1) := by decide +kernel
theorem dL_person_16 : decode cL_person 16 = .ok (.ireturn, 1) := by decide +kernel
theorem dL_person_17 : decode cL_person 17 = .ok (.iconst 0, 1) := by decide +kernel
theorem dL_person_18 : decode cL_person 18 = .ok (.ireturn, 1) := by decide +kernel
