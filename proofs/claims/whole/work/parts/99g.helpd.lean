theorem dL_feed_0 : decode cL_feed 0 = .ok (.aload 6, 2) := by decide +kernel
theorem dL_feed_2 : decode cL_feed 2 = .ok (.iconst 0, 1) := by decide +kernel
theorem dL_feed_3 : decode cL_feed 3 = .ok (.aload_n 0, 1) := by decide +kernel
theorem dL_feed_4 : decode cL_feed 4 = .ok (.iload_n 1, 1) := by decide +kernel
theorem dL_feed_5 : decode cL_feed 5 = .ok (.iload_n 2, 1) := by decide +kernel
theorem dL_feed_6 : decode cL_feed 6 = .ok (.iload_n 3, 1) := by decide +kernel
theorem dL_feed_7 : decode cL_feed 7 = .ok (.iload 4, 2) := by decide +kernel
theorem dL_feed_9 : decode cL_feed 9 = .ok (.iload 5, 2) := by decide +kernel
theorem dL_feed_11 : decode cL_feed 11 = .ok (.invokevirtual 7, 3) := by decide +kernel
theorem dL_feed_14 : decode cL_feed 14 = .ok (.i2l, 1) := by decide +kernel
theorem dL_feed_15 : decode cL_feed 15 = .ok (.lastore, 1) := by decide +kernel
theorem dL_feed_16 : decode cL_feed 16 = .ok (.goto 7, 3) := by decide +kernel
theorem dL_feed_19 : decode cL_feed 19 = .ok (.astore 7, 2) := by decide +kernel
theorem dL_feed_21 : decode cL_feed 21 = .ok (.iconst 1, 1) := by decide +kernel
theorem dL_feed_22 : decode cL_feed 22 = .ok (.ireturn, 1) := by decide +kernel
theorem dL_feed_23 : decode cL_feed 23 = .ok (.iconst 0, 1) := by decide +kernel
theorem dL_feed_24 : decode cL_feed 24 = .ok (.ireturn, 1) := by decide +kernel
abbrev hhL_feed : List (Nat × Nat × Nat × Nat) := [(0, 16, 19, 13)]
set_option maxRecDepth 100000 in
theorem wcw_feed : Cond.codeWith yL_feed cL_feed 8 (some .int) hhL_feed ∈ n_tb := n_a5 12 rfl rfl
theorem dL_end_0 : decode cL_end 0 = .ok (.aload_n 0, 1) := by decide +kernel
theorem dL_end_1 : decode cL_end 1 = .ok (.iload_n 1, 1) := by decide +kernel
theorem dL_end_2 : decode cL_end 2 = .ok (.invokevirtual 15, 3) := by decide +kernel
theorem dL_end_5 : decode cL_end 5 = .ok (.goto 6, 3) := by decide +kernel
theorem dL_end_8 : decode cL_end 8 = .ok (.astore_n 2, 1) := by decide +kernel
theorem dL_end_9 : decode cL_end 9 = .ok (.iconst 1, 1) := by decide +kernel
theorem dL_end_10 : decode cL_end 10 = .ok (.ireturn, 1) := by decide +kernel
theorem dL_end_11 : decode cL_end 11 = .ok (.iconst 0, 1) := by decide +kernel
theorem dL_end_12 : decode cL_end 12 = .ok (.ireturn, 1) := by decide +kernel
abbrev hhL_end : List (Nat × Nat × Nat × Nat) := [(0, 5, 8, 19)]
set_option maxRecDepth 100000 in
theorem wcw_end : Cond.codeWith yL_end cL_end 3 (some .int) hhL_end ∈ n_tb := n_a5 40 rfl rfl
theorem dL_load_0 : decode cL_load 0 = .ok (.aload_n 2, 1) := by decide +kernel
theorem dL_load_1 : decode cL_load 1 = .ok (.iconst 0, 1) := by decide +kernel
theorem dL_load_2 : decode cL_load 2 = .ok (.aload_n 0, 1) := by decide +kernel
theorem dL_load_3 : decode cL_load 3 = .ok (.iload_n 1, 1) := by decide +kernel
theorem dL_load_4 : decode cL_load 4 = .ok (.invokevirtual 21, 3) := by decide +kernel
theorem dL_load_7 : decode cL_load 7 = .ok (.i2l, 1) := by decide +kernel
theorem dL_load_8 : decode cL_load 8 = .ok (.lastore, 1) := by decide +kernel
theorem dL_load_9 : decode cL_load 9 = .ok (.goto 9, 3) := by decide +kernel
theorem dL_load_12 : decode cL_load 12 = .ok (.astore_n 3, 1) := by decide +kernel
theorem dL_load_13 : decode cL_load 13 = .ok (.iconst 1, 1) := by decide +kernel
theorem dL_load_14 : decode cL_load 14 = .ok (.ireturn, 1) := by decide +kernel
theorem dL_load_15 : decode cL_load 15 = .ok (.astore_n 3, 1) := by decide +kernel
theorem dL_load_16 : decode cL_load 16 = .ok (.iconst 2, 1) := by decide +kernel
theorem dL_load_17 : decode cL_load 17 = .ok (.ireturn, 1) := by decide +kernel
theorem dL_load_18 : decode cL_load 18 = .ok (.iconst 0, 1) := by decide +kernel
theorem dL_load_19 : decode cL_load 19 = .ok (.ireturn, 1) := by decide +kernel
abbrev hhL_load : List (Nat × Nat × Nat × Nat) := [(0, 9, 12, 25), (0, 9, 15, 13)]
set_option maxRecDepth 100000 in
theorem wcw_load : Cond.codeWith yL_load cL_load 4 (some .int) hhL_load ∈ n_tb := n_a5 51 rfl rfl
theorem dL_run_0 : decode cL_run 0 = .ok (.aload_n 2, 1) := by decide +kernel
theorem dL_run_1 : decode cL_run 1 = .ok (.iconst 0, 1) := by decide +kernel
theorem dL_run_2 : decode cL_run 2 = .ok (.aload_n 0, 1) := by decide +kernel
theorem dL_run_3 : decode cL_run 3 = .ok (.iload_n 1, 1) := by decide +kernel
theorem dL_run_4 : decode cL_run 4 = .ok (.invokevirtual 27, 3) := by decide +kernel
theorem dL_run_7 : decode cL_run 7 = .ok (.i2l, 1) := by decide +kernel
theorem dL_run_8 : decode cL_run 8 = .ok (.lastore, 1) := by decide +kernel
theorem dL_run_9 : decode cL_run 9 = .ok (.goto 6, 3) := by decide +kernel
theorem dL_run_12 : decode cL_run 12 = .ok (.astore_n 3, 1) := by decide +kernel
theorem dL_run_13 : decode cL_run 13 = .ok (.iconst 1, 1) := by decide +kernel
theorem dL_run_14 : decode cL_run 14 = .ok (.ireturn, 1) := by decide +kernel
theorem dL_run_15 : decode cL_run 15 = .ok (.iconst 0, 1) := by decide +kernel
theorem dL_run_16 : decode cL_run 16 = .ok (.ireturn, 1) := by decide +kernel
abbrev hhL_run : List (Nat × Nat × Nat × Nat) := [(0, 9, 12, 19)]
set_option maxRecDepth 100000 in
theorem wcw_run : Cond.codeWith yL_run cL_run 4 (some .int) hhL_run ∈ n_tb := n_a5 197 rfl rfl
theorem dL_quantum_0 : decode cL_quantum 0 = .ok (.aload_n 2, 1) := by decide +kernel
theorem dL_quantum_1 : decode cL_quantum 1 = .ok (.iconst 0, 1) := by decide +kernel
theorem dL_quantum_2 : decode cL_quantum 2 = .ok (.aload_n 0, 1) := by decide +kernel
theorem dL_quantum_3 : decode cL_quantum 3 = .ok (.iload_n 1, 1) := by decide +kernel
theorem dL_quantum_4 : decode cL_quantum 4 = .ok (.invokevirtual 30, 3) := by decide +kernel
theorem dL_quantum_7 : decode cL_quantum 7 = .ok (.i2l, 1) := by decide +kernel
theorem dL_quantum_8 : decode cL_quantum 8 = .ok (.lastore, 1) := by decide +kernel
theorem dL_quantum_9 : decode cL_quantum 9 = .ok (.goto 6, 3) := by decide +kernel
theorem dL_quantum_12 : decode cL_quantum 12 = .ok (.astore_n 3, 1) := by decide +kernel
theorem dL_quantum_13 : decode cL_quantum 13 = .ok (.iconst 1, 1) := by decide +kernel
theorem dL_quantum_14 : decode cL_quantum 14 = .ok (.ireturn, 1) := by decide +kernel
theorem dL_quantum_15 : decode cL_quantum 15 = .ok (.iconst 0, 1) := by decide +kernel
theorem dL_quantum_16 : decode cL_quantum 16 = .ok (.ireturn, 1) := by decide +kernel
abbrev hhL_quantum : List (Nat × Nat × Nat × Nat) := [(0, 9, 12, 19)]
set_option maxRecDepth 100000 in
theorem wcw_quantum : Cond.codeWith yL_quantum cL_quantum 4 (some .int) hhL_quantum ∈ n_tb := n_a5 205 rfl rfl
theorem dL_kill_0 : decode cL_kill 0 = .ok (.aload_n 2, 1) := by decide +kernel
theorem dL_kill_1 : decode cL_kill 1 = .ok (.iconst 0, 1) := by decide +kernel
theorem dL_kill_2 : decode cL_kill 2 = .ok (.aload_n 0, 1) := by decide +kernel
theorem dL_kill_3 : decode cL_kill 3 = .ok (.iload_n 1, 1) := by decide +kernel
theorem dL_kill_4 : decode cL_kill 4 = .ok (.invokevirtual 33, 3) := by decide +kernel
theorem dL_kill_7 : decode cL_kill 7 = .ok (.ifCond .eq 7, 3) := by decide +kernel
theorem dL_kill_10 : decode cL_kill 10 = .ok (.lconst 1, 1) := by decide +kernel
theorem dL_kill_11 : decode cL_kill 11 = .ok (.goto 4, 3) := by decide +kernel
theorem dL_kill_14 : decode cL_kill 14 = .ok (.lconst 0, 1) := by decide +kernel
theorem dL_kill_15 : decode cL_kill 15 = .ok (.lastore, 1) := by decide +kernel
theorem dL_kill_16 : decode cL_kill 16 = .ok (.goto 6, 3) := by decide +kernel
theorem dL_kill_19 : decode cL_kill 19 = .ok (.astore_n 3, 1) := by decide +kernel
theorem dL_kill_20 : decode cL_kill 20 = .ok (.iconst 1, 1) := by decide +kernel
theorem dL_kill_21 : decode cL_kill 21 = .ok (.ireturn, 1) := by decide +kernel
theorem dL_kill_22 : decode cL_kill 22 = .ok (.iconst 0, 1) := by decide +kernel
theorem dL_kill_23 : decode cL_kill 23 = .ok (.ireturn, 1) := by decide +kernel
abbrev hhL_kill : List (Nat × Nat × Nat × Nat) := [(0, 16, 19, 25)]
set_option maxRecDepth 100000 in
theorem wcw_kill : Cond.codeWith yL_kill cL_kill 4 (some .int) hhL_kill ∈ n_tb := n_a5 213 rfl rfl
theorem dL_reap_0 : decode cL_reap 0 = .ok (.aload_n 2, 1) := by decide +kernel
theorem dL_reap_1 : decode cL_reap 1 = .ok (.iconst 0, 1) := by decide +kernel
theorem dL_reap_2 : decode cL_reap 2 = .ok (.aload_n 0, 1) := by decide +kernel
theorem dL_reap_3 : decode cL_reap 3 = .ok (.iload_n 1, 1) := by decide +kernel
theorem dL_reap_4 : decode cL_reap 4 = .ok (.invokevirtual 37, 3) := by decide +kernel
theorem dL_reap_7 : decode cL_reap 7 = .ok (.i2l, 1) := by decide +kernel
theorem dL_reap_8 : decode cL_reap 8 = .ok (.lastore, 1) := by decide +kernel
theorem dL_reap_9 : decode cL_reap 9 = .ok (.goto 9, 3) := by decide +kernel
theorem dL_reap_12 : decode cL_reap 12 = .ok (.astore_n 3, 1) := by decide +kernel
theorem dL_reap_13 : decode cL_reap 13 = .ok (.iconst 1, 1) := by decide +kernel
theorem dL_reap_14 : decode cL_reap 14 = .ok (.ireturn, 1) := by decide +kernel
theorem dL_reap_15 : decode cL_reap 15 = .ok (.astore_n 3, 1) := by decide +kernel
theorem dL_reap_16 : decode cL_reap 16 = .ok (.iconst 2, 1) := by decide +kernel
theorem dL_reap_17 : decode cL_reap 17 = .ok (.ireturn, 1) := by decide +kernel
theorem dL_reap_18 : decode cL_reap 18 = .ok (.iconst 0, 1) := by decide +kernel
theorem dL_reap_19 : decode cL_reap 19 = .ok (.ireturn, 1) := by decide +kernel
abbrev hhL_reap : List (Nat × Nat × Nat × Nat) := [(0, 9, 12, 25), (0, 9, 15, 40)]
set_option maxRecDepth 100000 in
theorem wcw_reap : Cond.codeWith yL_reap cL_reap 4 (some .int) hhL_reap ∈ n_tb := n_a5 224 rfl rfl
theorem dL_key_0 : decode cL_key 0 = .ok (.aload_n 3, 1) := by decide +kernel
theorem dL_key_1 : decode cL_key 1 = .ok (.iconst 0, 1) := by decide +kernel
theorem dL_key_2 : decode cL_key 2 = .ok (.aload_n 0, 1) := by decide +kernel
theorem dL_key_3 : decode cL_key 3 = .ok (.iload_n 1, 1) := by decide +kernel
theorem dL_key_4 : decode cL_key 4 = .ok (.iload_n 2, 1) := by decide +kernel
theorem dL_key_5 : decode cL_key 5 = .ok (.invokevirtual 42, 3) := by decide +kernel
theorem dL_key_8 : decode cL_key 8 = .ok (.ifCond .eq 7, 3) := by decide +kernel
theorem dL_key_11 : decode cL_key 11 = .ok (.lconst 1, 1) := by decide +kernel
theorem dL_key_12 : decode cL_key 12 = .ok (.goto 4, 3) := by decide +kernel
theorem dL_key_15 : decode cL_key 15 = .ok (.lconst 0, 1) := by decide +kernel
theorem dL_key_16 : decode cL_key 16 = .ok (.lastore, 1) := by decide +kernel
theorem dL_key_17 : decode cL_key 17 = .ok (.goto 11, 3) := by decide +kernel
theorem dL_key_20 : decode cL_key 20 = .ok (.astore 4, 2) := by decide +kernel
theorem dL_key_22 : decode cL_key 22 = .ok (.iconst 1, 1) := by decide +kernel
theorem dL_key_23 : decode cL_key 23 = .ok (.ireturn, 1) := by decide +kernel
theorem dL_key_24 : decode cL_key 24 = .ok (.astore 4, 2) := by decide +kernel
theorem dL_key_26 : decode cL_key 26 = .ok (.iconst 2, 1) := by decide +kernel
theorem dL_key_27 : decode cL_key 27 = .ok (.ireturn, 1) := by decide +kernel
theorem dL_key_28 : decode cL_key 28 = .ok (.iconst 0, 1) := by decide +kernel
theorem dL_key_29 : decode cL_key 29 = .ok (.ireturn, 1) := by decide +kernel
abbrev hhL_key : List (Nat × Nat × Nat × Nat) := [(0, 17, 20, 25), (0, 17, 24, 40)]
set_option maxRecDepth 100000 in
theorem wcw_key : Cond.codeWith yL_key cL_key 5 (some .int) hhL_key ∈ n_tb := n_a6 9 rfl rfl
theorem dL_post_0 : decode cL_post 0 = .ok (.aload_n 3, 1) := by decide +kernel
theorem dL_post_1 : decode cL_post 1 = .ok (.iconst 0, 1) := by decide +kernel
theorem dL_post_2 : decode cL_post 2 = .ok (.aload_n 0, 1) := by decide +kernel
theorem dL_post_3 : decode cL_post 3 = .ok (.iload_n 1, 1) := by decide +kernel
theorem dL_post_4 : decode cL_post 4 = .ok (.iload_n 2, 1) := by decide +kernel
theorem dL_post_5 : decode cL_post 5 = .ok (.invokevirtual 46, 3) := by decide +kernel
theorem dL_post_8 : decode cL_post 8 = .ok (.ifCond .eq 7, 3) := by decide +kernel
theorem dL_post_11 : decode cL_post 11 = .ok (.lconst 1, 1) := by decide +kernel
theorem dL_post_12 : decode cL_post 12 = .ok (.goto 4, 3) := by decide +kernel
theorem dL_post_15 : decode cL_post 15 = .ok (.lconst 0, 1) := by decide +kernel
theorem dL_post_16 : decode cL_post 16 = .ok (.lastore, 1) := by decide +kernel
theorem dL_post_17 : decode cL_post 17 = .ok (.goto 11, 3) := by decide +kernel
theorem dL_post_20 : decode cL_post 20 = .ok (.astore 4, 2) := by decide +kernel
theorem dL_post_22 : decode cL_post 22 = .ok (.iconst 1, 1) := by decide +kernel
theorem dL_post_23 : decode cL_post 23 = .ok (.ireturn, 1) := by decide +kernel
theorem dL_post_24 : decode cL_post 24 = .ok (.astore 4, 2) := by decide +kernel
theorem dL_post_26 : decode cL_post 26 = .ok (.iconst 2, 1) := by decide +kernel
theorem dL_post_27 : decode cL_post 27 = .ok (.ireturn, 1) := by decide +kernel
theorem dL_post_28 : decode cL_post 28 = .ok (.iconst 0, 1) := by decide +kernel
theorem dL_post_29 : decode cL_post 29 = .ok (.ireturn, 1) := by decide +kernel
abbrev hhL_post : List (Nat × Nat × Nat × Nat) := [(0, 17, 20, 25), (0, 17, 24, 40)]
set_option maxRecDepth 100000 in
theorem wcw_post : Cond.codeWith yL_post cL_post 5 (some .int) hhL_post ∈ n_tb := n_a6 19 rfl rfl
theorem dL_state_0 : decode cL_state 0 = .ok (.aload_n 3, 1) := by decide +kernel
theorem dL_state_1 : decode cL_state 1 = .ok (.iconst 0, 1) := by decide +kernel
theorem dL_state_2 : decode cL_state 2 = .ok (.aload_n 0, 1) := by decide +kernel
theorem dL_state_3 : decode cL_state 3 = .ok (.iload_n 1, 1) := by decide +kernel
theorem dL_state_4 : decode cL_state 4 = .ok (.iload_n 2, 1) := by decide +kernel
theorem dL_state_5 : decode cL_state 5 = .ok (.invokevirtual 49, 3) := by decide +kernel
theorem dL_state_8 : decode cL_state 8 = .ok (.i2l, 1) := by decide +kernel
theorem dL_state_9 : decode cL_state 9 = .ok (.lastore, 1) := by decide +kernel
theorem dL_state_10 : decode cL_state 10 = .ok (.goto 7, 3) := by decide +kernel
theorem dL_state_13 : decode cL_state 13 = .ok (.astore 4, 2) := by decide +kernel
theorem dL_state_15 : decode cL_state 15 = .ok (.iconst 1, 1) := by decide +kernel
theorem dL_state_16 : decode cL_state 16 = .ok (.ireturn, 1) := by decide +kernel
theorem dL_state_17 : decode cL_state 17 = .ok (.iconst 0, 1) := by decide +kernel
theorem dL_state_18 : decode cL_state 18 = .ok (.ireturn, 1) := by decide +kernel
abbrev hhL_state : List (Nat × Nat × Nat × Nat) := [(0, 10, 13, 25)]
set_option maxRecDepth 100000 in
theorem wcw_state : Cond.codeWith yL_state cL_state 5 (some .int) hhL_state ∈ n_tb := n_a6 27 rfl rfl
theorem dL_stack_0 : decode cL_stack 0 = .ok (.aload_n 3, 1) := by decide +kernel
theorem dL_stack_1 : decode cL_stack 1 = .ok (.iconst 0, 1) := by decide +kernel
theorem dL_stack_2 : decode cL_stack 2 = .ok (.aload_n 0, 1) := by decide +kernel
theorem dL_stack_3 : decode cL_stack 3 = .ok (.iload_n 1, 1) := by decide +kernel
theorem dL_stack_4 : decode cL_stack 4 = .ok (.iload_n 2, 1) := by decide +kernel
theorem dL_stack_5 : decode cL_stack 5 = .ok (.invokevirtual 53, 3) := by decide +kernel
theorem dL_stack_8 : decode cL_stack 8 = .ok (.i2l, 1) := by decide +kernel
theorem dL_stack_9 : decode cL_stack 9 = .ok (.lastore, 1) := by decide +kernel
theorem dL_stack_10 : decode cL_stack 10 = .ok (.goto 7, 3) := by decide +kernel
theorem dL_stack_13 : decode cL_stack 13 = .ok (.astore 4, 2) := by decide +kernel
theorem dL_stack_15 : decode cL_stack 15 = .ok (.iconst 1, 1) := by decide +kernel
theorem dL_stack_16 : decode cL_stack 16 = .ok (.ireturn, 1) := by decide +kernel
theorem dL_stack_17 : decode cL_stack 17 = .ok (.iconst 0, 1) := by decide +kernel
theorem dL_stack_18 : decode cL_stack 18 = .ok (.ireturn, 1) := by decide +kernel
abbrev hhL_stack : List (Nat × Nat × Nat × Nat) := [(0, 10, 13, 25)]
set_option maxRecDepth 100000 in
theorem wcw_stack : Cond.codeWith yL_stack cL_stack 5 (some .int) hhL_stack ∈ n_tb := n_a6 39 rfl rfl
theorem dL_message_0 : decode cL_message 0 = .ok (.aload 4, 2) := by decide +kernel
theorem dL_message_2 : decode cL_message 2 = .ok (.iconst 0, 1) := by decide +kernel
theorem dL_message_3 : decode cL_message 3 = .ok (.aload_n 0, 1) := by decide +kernel
theorem dL_message_4 : decode cL_message 4 = .ok (.iload_n 1, 1) := by decide +kernel
theorem dL_message_5 : decode cL_message 5 = .ok (.iload_n 2, 1) := by decide +kernel
theorem dL_message_6 : decode cL_message 6 = .ok (.iload_n 3, 1) := by decide +kernel
theorem dL_message_7 : decode cL_message 7 = .ok (.invokevirtual 56, 3) := by decide +kernel
theorem dL_message_10 : decode cL_message 10 = .ok (.i2l, 1) := by decide +kernel
theorem dL_message_11 : decode cL_message 11 = .ok (.lastore, 1) := by decide +kernel
theorem dL_message_12 : decode cL_message 12 = .ok (.goto 7, 3) := by decide +kernel
theorem dL_message_15 : decode cL_message 15 = .ok (.astore 5, 2) := by decide +kernel
theorem dL_message_17 : decode cL_message 17 = .ok (.iconst 1, 1) := by decide +kernel
theorem dL_message_18 : decode cL_message 18 = .ok (.ireturn, 1) := by decide +kernel
theorem dL_message_19 : decode cL_message 19 = .ok (.iconst 0, 1) := by decide +kernel
theorem dL_message_20 : decode cL_message 20 = .ok (.ireturn, 1) := by decide +kernel
abbrev hhL_message : List (Nat × Nat × Nat × Nat) := [(0, 12, 15, 25)]
set_option maxRecDepth 100000 in
theorem wcw_message : Cond.codeWith yL_message cL_message 6 (some .int) hhL_message ∈ n_tb := n_a6 47 rfl rfl
theorem dL_ready_0 : decode cL_ready 0 = .ok (.aload_n 3, 1) := by decide +kernel
theorem dL_ready_1 : decode cL_ready 1 = .ok (.iconst 0, 1) := by decide +kernel
theorem dL_ready_2 : decode cL_ready 2 = .ok (.aload_n 0, 1) := by decide +kernel
theorem dL_ready_3 : decode cL_ready 3 = .ok (.iload_n 1, 1) := by decide +kernel
theorem dL_ready_4 : decode cL_ready 4 = .ok (.iload_n 2, 1) := by decide +kernel
theorem dL_ready_5 : decode cL_ready 5 = .ok (.invokevirtual 60, 3) := by decide +kernel
theorem dL_ready_8 : decode cL_ready 8 = .ok (.i2l, 1) := by decide +kernel
theorem dL_ready_9 : decode cL_ready 9 = .ok (.lastore, 1) := by decide +kernel
theorem dL_ready_10 : decode cL_ready 10 = .ok (.goto 7, 3) := by decide +kernel
theorem dL_ready_13 : decode cL_ready 13 = .ok (.astore 4, 2) := by decide +kernel
theorem dL_ready_15 : decode cL_ready 15 = .ok (.iconst 1, 1) := by decide +kernel
theorem dL_ready_16 : decode cL_ready 16 = .ok (.ireturn, 1) := by decide +kernel
theorem dL_ready_17 : decode cL_ready 17 = .ok (.iconst 0, 1) := by decide +kernel
theorem dL_ready_18 : decode cL_ready 18 = .ok (.ireturn, 1) := by decide +kernel
abbrev hhL_ready : List (Nat × Nat × Nat × Nat) := [(0, 10, 13, 25)]
set_option maxRecDepth 100000 in
theorem wcw_ready : Cond.codeWith yL_ready cL_ready 5 (some .int) hhL_ready ∈ n_tb := n_a6 55 rfl rfl
theorem dL_cell_0 : decode cL_cell 0 = .ok (.aload_n 2, 1) := by decide +kernel
theorem dL_cell_1 : decode cL_cell 1 = .ok (.iconst 0, 1) := by decide +kernel
theorem dL_cell_2 : decode cL_cell 2 = .ok (.aload_n 0, 1) := by decide +kernel
theorem dL_cell_3 : decode cL_cell 3 = .ok (.iload_n 1, 1) := by decide +kernel
theorem dL_cell_4 : decode cL_cell 4 = .ok (.invokevirtual 63, 3) := by decide +kernel
theorem dL_cell_7 : decode cL_cell 7 = .ok (.i2l, 1) := by decide +kernel
theorem dL_cell_8 : decode cL_cell 8 = .ok (.lastore, 1) := by decide +kernel
theorem dL_cell_9 : decode cL_cell 9 = .ok (.goto 6, 3) := by decide +kernel
theorem dL_cell_12 : decode cL_cell 12 = .ok (.astore_n 3, 1) := by decide +kernel
theorem dL_cell_13 : decode cL_cell 13 = .ok (.iconst 1, 1) := by decide +kernel
theorem dL_cell_14 : decode cL_cell 14 = .ok (.ireturn, 1) := by decide +kernel
theorem dL_cell_15 : decode cL_cell 15 = .ok (.iconst 0, 1) := by decide +kernel
theorem dL_cell_16 : decode cL_cell 16 = .ok (.ireturn, 1) := by decide +kernel
abbrev hhL_cell : List (Nat × Nat × Nat × Nat) := [(0, 9, 12, 25)]
set_option maxRecDepth 100000 in
theorem wcw_cell : Cond.codeWith yL_cell cL_cell 4 (some .int) hhL_cell ∈ n_tb := n_a6 63 rfl rfl
theorem dL_block_0 : decode cL_block 0 = .ok (.aload_n 3, 1) := by decide +kernel
theorem dL_block_1 : decode cL_block 1 = .ok (.iconst 0, 1) := by decide +kernel
theorem dL_block_2 : decode cL_block 2 = .ok (.aload_n 0, 1) := by decide +kernel
theorem dL_block_3 : decode cL_block 3 = .ok (.iload_n 1, 1) := by decide +kernel
theorem dL_block_4 : decode cL_block 4 = .ok (.iload_n 2, 1) := by decide +kernel
theorem dL_block_5 : decode cL_block 5 = .ok (.invokevirtual 66, 3) := by decide +kernel
theorem dL_block_8 : decode cL_block 8 = .ok (.i2l, 1) := by decide +kernel
theorem dL_block_9 : decode cL_block 9 = .ok (.lastore, 1) := by decide +kernel
theorem dL_block_10 : decode cL_block 10 = .ok (.goto 7, 3) := by decide +kernel
theorem dL_block_13 : decode cL_block 13 = .ok (.astore 4, 2) := by decide +kernel
theorem dL_block_15 : decode cL_block 15 = .ok (.iconst 1, 1) := by decide +kernel
theorem dL_block_16 : decode cL_block 16 = .ok (.ireturn, 1) := by decide +kernel
theorem dL_block_17 : decode cL_block 17 = .ok (.iconst 0, 1) := by decide +kernel
theorem dL_block_18 : decode cL_block 18 = .ok (.ireturn, 1) := by decide +kernel
abbrev hhL_block : List (Nat × Nat × Nat × Nat) := [(0, 10, 13, 25)]
set_option maxRecDepth 100000 in
theorem wcw_block : Cond.codeWith yL_block cL_block 5 (some .int) hhL_block ∈ n_tb := n_a6 71 rfl rfl
theorem dL_semaphore_0 : decode cL_semaphore 0 = .ok (.aload_n 3, 1) := by decide +kernel
theorem dL_semaphore_1 : decode cL_semaphore 1 = .ok (.iconst 0, 1) := by decide +kernel
theorem dL_semaphore_2 : decode cL_semaphore 2 = .ok (.aload_n 0, 1) := by decide +kernel
theorem dL_semaphore_3 : decode cL_semaphore 3 = .ok (.iload_n 1, 1) := by decide +kernel
theorem dL_semaphore_4 : decode cL_semaphore 4 = .ok (.iload_n 2, 1) := by decide +kernel
theorem dL_semaphore_5 : decode cL_semaphore 5 = .ok (.invokevirtual 69, 3) := by decide +kernel
theorem dL_semaphore_8 : decode cL_semaphore 8 = .ok (.i2l, 1) := by decide +kernel
theorem dL_semaphore_9 : decode cL_semaphore 9 = .ok (.lastore, 1) := by decide +kernel
theorem dL_semaphore_10 : decode cL_semaphore 10 = .ok (.goto 7, 3) := by decide +kernel
theorem dL_semaphore_13 : decode cL_semaphore 13 = .ok (.astore 4, 2) := by decide +kernel
theorem dL_semaphore_15 : decode cL_semaphore 15 = .ok (.iconst 1, 1) := by decide +kernel
theorem dL_semaphore_16 : decode cL_semaphore 16 = .ok (.ireturn, 1) := by decide +kernel
theorem dL_semaphore_17 : decode cL_semaphore 17 = .ok (.iconst 0, 1) := by decide +kernel
theorem dL_semaphore_18 : decode cL_semaphore 18 = .ok (.ireturn, 1) := by decide +kernel
abbrev hhL_semaphore : List (Nat × Nat × Nat × Nat) := [(0, 10, 13, 25)]
set_option maxRecDepth 100000 in
theorem wcw_semaphore : Cond.codeWith yL_semaphore cL_semaphore 5 (some .int) hhL_semaphore ∈ n_tb := n_a6 83 rfl rfl
theorem dL_out_0 : decode cL_out 0 = .ok (.aload_n 2, 1) := by decide +kernel
theorem dL_out_1 : decode cL_out 1 = .ok (.iconst 0, 1) := by decide +kernel
theorem dL_out_2 : decode cL_out 2 = .ok (.aload_n 0, 1) := by decide +kernel
theorem dL_out_3 : decode cL_out 3 = .ok (.iload_n 1, 1) := by decide +kernel
theorem dL_out_4 : decode cL_out 4 = .ok (.invokevirtual 72, 3) := by decide +kernel
theorem dL_out_7 : decode cL_out 7 = .ok (.i2l, 1) := by decide +kernel
theorem dL_out_8 : decode cL_out 8 = .ok (.lastore, 1) := by decide +kernel
theorem dL_out_9 : decode cL_out 9 = .ok (.goto 6, 3) := by decide +kernel
theorem dL_out_12 : decode cL_out 12 = .ok (.astore_n 3, 1) := by decide +kernel
theorem dL_out_13 : decode cL_out 13 = .ok (.iconst 1, 1) := by decide +kernel
theorem dL_out_14 : decode cL_out 14 = .ok (.ireturn, 1) := by decide +kernel
theorem dL_out_15 : decode cL_out 15 = .ok (.iconst 0, 1) := by decide +kernel
theorem dL_out_16 : decode cL_out 16 = .ok (.ireturn, 1) := by decide +kernel
abbrev hhL_out : List (Nat × Nat × Nat × Nat) := [(0, 9, 12, 25)]
set_option maxRecDepth 100000 in
theorem wcw_out : Cond.codeWith yL_out cL_out 4 (some .int) hhL_out ∈ n_tb := n_a6 91 rfl rfl
theorem dL_count_0 : decode cL_count 0 = .ok (.aload_n 2, 1) := by decide +kernel
theorem dL_count_1 : decode cL_count 1 = .ok (.iconst 0, 1) := by decide +kernel
theorem dL_count_2 : decode cL_count 2 = .ok (.aload_n 0, 1) := by decide +kernel
theorem dL_count_3 : decode cL_count 3 = .ok (.iload_n 1, 1) := by decide +kernel
theorem dL_count_4 : decode cL_count 4 = .ok (.invokevirtual 75, 3) := by decide +kernel
theorem dL_count_7 : decode cL_count 7 = .ok (.i2l, 1) := by decide +kernel
theorem dL_count_8 : decode cL_count 8 = .ok (.lastore, 1) := by decide +kernel
theorem dL_count_9 : decode cL_count 9 = .ok (.goto 6, 3) := by decide +kernel
theorem dL_count_12 : decode cL_count 12 = .ok (.astore_n 3, 1) := by decide +kernel
theorem dL_count_13 : decode cL_count 13 = .ok (.iconst 1, 1) := by decide +kernel
theorem dL_count_14 : decode cL_count 14 = .ok (.ireturn, 1) := by decide +kernel
theorem dL_count_15 : decode cL_count 15 = .ok (.iconst 0, 1) := by decide +kernel
theorem dL_count_16 : decode cL_count 16 = .ok (.ireturn, 1) := by decide +kernel
abbrev hhL_count : List (Nat × Nat × Nat × Nat) := [(0, 9, 12, 25)]
set_option maxRecDepth 100000 in
theorem wcw_count : Cond.codeWith yL_count cL_count 4 (some .int) hhL_count ∈ n_tb := n_a6 99 rfl rfl
